/-! CALLS: which -/
def eqP (f g : Nat → Int) : Nat → Int
  | 0 => 1
  | c + 1 => if eqP f g c = 0 then 0 else if f c = g c - 32 then 1 else 0
theorem eqP_in {f g : Nat → Int} : ∀ c, eqP f g c = 0 ∨ eqP f g c = 1
  | 0 => Or.inr rfl
  | c + 1 => by
    unfold eqP
    split
    · exact Or.inl rfl
    · split
      · exact Or.inr rfl
      · exact Or.inl rfl
theorem eqP_stay {f g : Nat → Int} {c : Nat} (h : eqP f g c = 0) : ∀ j, eqP f g (c + j) = 0
  | 0 => h
  | j + 1 => by
    show (if eqP f g (c + j) = 0 then 0 else if f (c + j) = g (c + j) - 32 then 1 else 0) = 0
    rw [if_pos (eqP_stay h j)]
theorem eqP_congr {f g u v : Nat → Int} : ∀ n, (∀ c, c < n → f c = u c ∧ g c = v c) → eqP f g n = eqP u v n
  | 0, _ => rfl
  | n + 1, e => by
    unfold eqP
    rw [eqP_congr n (fun c hc => e c (by omega)), (e n (by omega)).1, (e n (by omega)).2]
/-- a told wave on how things are now -/
def wvR (h : Hp) (s : Nat → Int) (k : Nat) : Nat → Int := slidesP h (waveP h (h 110 (3 * k + 1)).toNat (h 110 (3 * k + 2)) s)
def bitP (x : Int) (k : Nat) : Int := (iI x ||| iI ((iI 1 <<< (iI (k : Int) &&& 31)).toInt)).toInt
def whP (h : Hp) : Nat → Int
  | 0 => 0
  | k + 1 => if eqP (wvR h (h 121) k) (h 2) (nN h) = 0 then whP h k else bitP (whP h k) k
theorem whP_in {h : Hp} : ∀ k, inR (whP h k)
  | 0 => by unfold whP inR; omega
  | k + 1 => by
    unfold whP
    split
    · exact whP_in k
    · exact tI_inR _
theorem or_zero {x : Int} (hx : inR x) : (iI x ||| iI 0).toInt = x := by
  have : iI x ||| iI 0 = iI x := by
    show iI x ||| (0 : Int32) = iI x
    exact Int32.or_zero
  rw [this, iI_toInt hx]
theorem k_isHeights {h : Hp} {n : Nat} (hn : n ≤ 64) : (h 1 1 = (n : Int) ∧ (∀ c, c < n → 32 ≤ h 2 c ∧ h 2 c ≤ 126) ∧ g_X5_isHeights 1 (n : Int) h = some 1) ∨ (¬ (h 1 1 = (n : Int) ∧ ∀ c, c < n → 32 ≤ h 2 c ∧ h 2 c ≤ 126) ∧ g_X5_isHeights 1 (n : Int) h = some 0) := by
  unfold g_X5_isHeights
  by_cases z : h 1 1 = (n : Int)
  rotate_left
  · right
    refine ⟨fun y => z y.1, ?_⟩
    rw [e_gF, b_neg z, e_cI]
    exact e_retZ0
  rw [e_gF, b_pos z, e_cI]
  have loop : ∀ (j4 : Unit → Option Int), j4 () = some 0 → ∀ (d i F : Nat), i + d = n → d < F → (∀ c, c < i → 32 ≤ h 2 c ∧ h 2 c ≤ 126) → ((∀ c, c < n → 32 ≤ h 2 c ∧ h 2 c ≤ 126) ∧ loopF (g_X5_isHeights_l7 1 h j4) F (i : Int) = some 1) ∨ (¬ (∀ c, c < n → 32 ≤ h 2 c ∧ h 2 c ≤ 126) ∧ loopF (g_X5_isHeights_l7 1 h j4) F (i : Int) = some 0) := by
    intro j4 hj d
    induction d with
    | zero =>
      intro i F hi hF hc
      obtain ⟨F, rfl⟩ : ∃ g, F = g + 1 := ⟨F - 1, by omega⟩
      left
      refine ⟨fun c hcn => hc c (by omega), ?_⟩
      show g_X5_isHeights_l7 1 h j4 (loopF _ F) (i : Int) = _
      unfold g_X5_isHeights_l7
      rw [e_gF, z, b_pos (by omega), e_cI]
      exact e_retZ1
    | succ d ih =>
      intro i F hi hF hc
      obtain ⟨F, rfl⟩ : ∃ g, F = g + 1 := ⟨F - 1, by omega⟩
      have nx := ih (i + 1) F (by omega) (by omega)
      show (_ ∧ g_X5_isHeights_l7 1 h j4 (loopF _ F) (i : Int) = _) ∨ (_ ∧ g_X5_isHeights_l7 1 h j4 (loopF _ F) (i : Int) = _)
      generalize loopF (g_X5_isHeights_l7 1 h j4) F = self at nx
      unfold g_X5_isHeights_l7
      rw [e_gF, z, b_neg (by omega), e_rdn _ _ _ _ _ (by omega), show 1 + 1 = 2 from rfl, e_cI]
      by_cases y : h 2 i < 32
      · right
        rw [b_pos y]
        exact ⟨fun a => by have := a i (by omega); omega, hj⟩
      rw [b_neg y, e_rdn _ _ _ _ _ (by omega), e_cI]
      by_cases y2 : h 2 i ≤ 126
      · rw [b_pos y2, e_add _ _ _ (by omega), show (i : Int) + 1 = ((i + 1 : Nat) : Int) by omega]
        exact nx (fun c hcn => by
          by_cases q : c = i
          · rw [q]; omega
          · exact hc c (by omega))
      · right
        rw [b_neg y2]
        exact ⟨fun a => by have := a i (by omega); omega, hj⟩
  have := loop (fun (a3 : Unit) => cI 0 fun z5 => retZ z5) e_retZ0 n 0 FU (by omega) (fu _ (by omega)) (fun c hc => by omega)
  rw [show ((0 : Nat) : Int) = 0 from rfl] at this
  rw [e_join]
  rcases this with ⟨a, b⟩ | ⟨a, b⟩
  · exact Or.inl ⟨z, a, b⟩
  · exact Or.inr ⟨fun y => a y.2, b⟩
theorem k_areHeights {h : Hp} {n : Nat} (hn : n ≤ 64) (hb : ∀ c, c < n → 0 ≤ h 2 c ∧ h 2 c ≤ 255) : g_X5_areHeights 1 48 (n : Int) h = some (eqP (h 48) (h 2) n) := by
  unfold g_X5_areHeights
  rw [e_cI]
  have key : ∃ rr, (joinF (fun (a2 : Unit) => cI 1 fun z4 => retZ z4) fun j3 => loopF (g_X5_areHeights_l6 1 48 h j3 (n : Int)) FU 0) = some rr ∧ rr = eqP (h 48) (h 2) n := by
    refine join_ex (fun j3 hj3 => ?_)
    refine loopF_ex n (fun i (q : Int) => q = (i : Int) ∧ eqP (h 48) (h 2) i = 1) ?_ ?_ FU 0 _ (Nat.zero_le _) (fu _ (by omega)) ⟨rfl, rfl⟩
    · rintro i q hi ⟨e1, e2⟩ self
      subst e1
      have hbi := hb i hi
      have es : eqP (h 48) (h 2) (i + 1) = if h 48 i = h 2 i - 32 then 1 else 0 := by
        show (if eqP (h 48) (h 2) i = 0 then 0 else if h 48 i = h 2 i - 32 then 1 else 0) = _
        rw [if_neg (by omega)]
      unfold g_X5_areHeights_l6
      rw [b_neg (by omega), e_cI, b_neg (by omega), e_rdn _ _ _ _ _ (by omega), e_rdn _ _ _ _ _ (by omega), show 1 + 1 = 2 from rfl, e_cI, e_sub _ _ _ (by omega)]
      by_cases z : h 48 i = h 2 i - 32
      · left
        rw [b_pos z, e_add _ _ _ (by omega)]
        exact ⟨_, ⟨by omega, by rw [es, if_pos z]⟩, rfl⟩
      · right
        rw [b_neg z, e_cI]
        rw [if_neg z] at es
        have := eqP_stay es (n - (i + 1))
        rw [show i + 1 + (n - (i + 1)) = n by omega] at this
        exact ⟨0, e_retZ0, this.symm⟩
    · rintro q ⟨e1, e2⟩ self
      subst e1
      unfold g_X5_areHeights_l6
      rw [b_pos (by omega), hj3, e_cI]
      exact ⟨1, e_retZ1, e2.symm⟩
  obtain ⟨rr, a, b⟩ := key
  rw [a, b]
theorem k_wavesThatFit {h : Hp} {N c v : Nat} (r : Rel N h) (hN : N ≤ 600) (rb : BchR h c) (rs : SeaR h v) : ∃ g, g_X8_wavesThatFit h = some (whP h (h 100 28).toNat, g) ∧ TF h g := by
  have hv := r.1
  have hNn := hv.n
  have hsea := (pv_sea hv)
  have r4 := r.2.2.2.2.1
  have hI := r4.1
  have rt := r.2.2.2.2.2.2.1.2.2
  have key : ∃ rr : Int × Hp, g_X8_wavesThatFit h = some rr ∧ (rr.1 = whP h (h 100 28).toNat ∧ TF h rr.2) := by
    unfold g_X8_wavesThatFit
    rw [e_cI, e_cI]
    refine loopF_ex (h 100 28).toNat (fun i (q : Int × Int × Hp) => q.1 = whP h i ∧ q.2.1 = (i : Int) ∧ TF h q.2.2) ?_ ?_ FU 0 _ (Nat.zero_le _) (fu _ (by omega)) ⟨rfl, rfl, TF.rf⟩
    · rintro i ⟨y1, y2, g⟩ hi ⟨e1, e2, hg⟩ self
      dsimp only at e1 e2 hg
      subst e1 e2
      left
      have ps := tf_ps rs hg
      obtain ⟨w0, w1, w2⟩ := hsea.2.1 i hi
      obtain ⟨g1, u1, u2, u3⟩ := k_copyFrom (b := 47) (a := 26) (h := g) hv (by omega) hI.2.2.2.1 (r4.2.1.hp (fun q _ _ => hg q (by omega)))
      have f1 : TF h g1 := fun p hp => by rw [u3 p (by omega), hg p hp]
      have p1 := tf_ps rs f1
      obtain ⟨e3, e4, e5⟩ := p1.2.2.2.1 i hi
      obtain ⟨far, hfar⟩ := Int.eq_ofNat_of_zero_le (show 0 ≤ h 110 (3 * i + 1) by omega)
      obtain ⟨g2, x1, x2, x3⟩ := k_runUp (b := 47) (c := c) (far := far) (lvl := h 110 (3 * i + 2)) hv (tf_pb rb f1) (by rcases rb.1 with q | q <;> omega) (by omega) (by omega) hI u2
      have f2 : TF h g2 := fun p hp => by rw [x3 p (by omega), f1 p hp]
      have i2 := iv_waveP (far := far) (lvl := h 110 (3 * i + 2)) hI hv
      obtain ⟨g3, z1, z2, z3⟩ := k_slide (b := 47) (c := c) hv (tf_pb rb f2) (by rcases rb.1 with q | q <;> omega) (by omega) i2 x2
      have f3 : TF h g3 := fun p hp => by rw [z3 p (by omega), f2 p hp]
      have e2b : g3 2 = h 2 := f3 2 (by omega)
      have ea := k_areHeights (h := g3) (n := nN h) hNn.2 (fun c hc => by rw [e2b]; exact (rt c (by omega)).1)
      have ee : eqP (g3 48) (g3 2) (nN h) = eqP (wvR h (h 121) i) (h 2) (nN h) := by
        refine eqP_congr _ (fun c hc => ⟨?_, by rw [e2b]⟩)
        have := (z2.1.1 c hc).1
        rw [show 48 = 47 + 1 from rfl, this]
        unfold wvR
        rw [hfar, Int.toNat_natCast]
      rw [ee] at ea
      unfold g_X8_wavesThatFit_l4
      dsimp only
      rw [tf_sea rs hg, e_gF, ps.2.2.1, b_neg (by omega), u1, e_cV, tf_beach rb f1, tf_sea rs f1, e_rdn _ _ _ _ _ (by omega), e4, tf_sea rs f1, e_rdn _ _ _ _ _ (by omega), e5, tf_sea rs f1, k_cut p1, e_cP, hfar, x1, e_cV, tf_beach rb f2, z1, e_cV, tf_beach rb f3, k_cells (tf_pb rb f3) hv, e_cP, ea, e_cP]
      refine join_exr (fun j25 hj25 => ?_)
      have es : whP h (i + 1) = if eqP (wvR h (h 121) i) (h 2) (nN h) = 0 then whP h i else bitP (whP h i) i := rfl
      by_cases z : eqP (wvR h (h 121) i) (h 2) (nN h) = 0
      · rw [if_pos z] at es
        rw [b_pos z, hj25, e_add _ _ _ (by omega)]
        exact ⟨_, ⟨es.symm, by (try dsimp only); omega, f3⟩, rfl⟩
      · rw [if_neg z] at es
        have eo : ∀ K : Int → Option (Int × Hp), (cI 1 fun z28 => shlI z28 (i : Int) fun z29 => orI (whP h i) z29 K) = K (whP h (i + 1)) := by
          intro K
          rw [es]
          rfl
        rw [b_neg z, eo, hj25, e_add _ _ _ (by omega)]
        exact ⟨_, ⟨rfl, by (try dsimp only); omega, f3⟩, rfl⟩
    · rintro ⟨y1, y2, g⟩ ⟨e1, e2, hg⟩ self
      dsimp only at e1 e2 hg
      subst e1 e2
      unfold g_X8_wavesThatFit_l4
      dsimp only
      rw [tf_sea rs hg, e_gF, (tf_ps rs hg).2.2.1, b_pos (by omega)]
      exact ⟨_, rfl, rfl, hg⟩
  obtain ⟨⟨z, g⟩, a, b, d⟩ := key
  exact ⟨g, by rw [a]; dsimp only at b; rw [b], d⟩
theorem wv_ag {h : Hp} {k : Nat} {s t : Nat → Int} (hv : PV h) (e : Ag 275 s t) : Ag 275 (wvR h s k) (wvR h t k) := by
  unfold wvR
  exact ag_slidesP hv (ag_waveP hv (by omega) e) (by omega)
theorem low_te {P Q : Hp} (e : TE P Q) {s : Nat → Int} {c : Nat} : lowP Q s c = lowP P s c := by
  obtain ⟨ec, er, en⟩ := e.cn
  unfold lowP candP
  rw [en, ec]
theorem holds_te {P Q : Hp} (e : TE P Q) {w p : Int} : holdsP Q w p = holdsP P w p := by
  unfold holdsP strP
  rw [e.2.1.1]
theorem slideC_te {P Q : Hp} (e : TE P Q) {s : Nat → Int} {c : Nat} : slideC Q s c = slideC P s c := by
  unfold slideC
  rw [low_te e, holds_te e]
theorem round_te {P Q : Hp} (e : TE P Q) {s : Nat → Int} : ∀ n, roundP Q s n = roundP P s n
  | 0 => rfl
  | n + 1 => by
    unfold roundP
    rw [round_te e n, slideC_te e]
theorem rounds_te {P Q : Hp} (e : TE P Q) : ∀ (k : Nat) (s : Nat → Int), roundsP Q k s = roundsP P k s
  | 0, _ => rfl
  | k + 1, s => by
    unfold roundsP
    rw [e.cn.2.2, round_te e, rounds_te e k]
theorem slides_te {P Q : Hp} (e : TE P Q) {s : Nat → Int} : slidesP Q s = slidesP P s := by
  unfold slidesP
  rw [rounds_te e]
theorem col_te {P Q : Hp} (e : TE P Q) {x far : Nat} {lvl : Int} : ∀ (f y : Nat) (s : Nat → Int), colP Q x far lvl f y s = colP P x far lvl f y s
  | 0, _, _ => rfl
  | f + 1, y, s => by
    obtain ⟨ec, er, en⟩ := e.cn
    unfold colP cutP offP
    rw [col_te e f (y + 1), ec, er, e.1.2.2.2.2.1]
theorem cols_te {P Q : Hp} (e : TE P Q) {far : Nat} {lvl : Int} {s : Nat → Int} : ∀ n, colsP Q far lvl s n = colsP P far lvl s n
  | 0 => rfl
  | n + 1 => by
    unfold colsP
    rw [cols_te e n, col_te e]
theorem wave_te {P Q : Hp} (e : TE P Q) {far : Nat} {lvl : Int} {s : Nat → Int} : waveP Q far lvl s = waveP P far lvl s := by
  unfold waveP
  rw [cols_te e, e.cn.1]
theorem m_waves {h g : Hp} {N n : Nat} (r : Rel N h) (hN : N ≤ 600) (hn : n = nN h) (f : ∀ p, p ≠ 122 → (p < 46 ∨ 58 < p) → p ≠ 100 → p ≠ 1 → g p = h p) (f1 : ∀ k, k ≠ 1 → g 100 k = h 100 k) (hb : ∀ c, c < n → h 101 c = h 2 c ∧ 32 ≤ h 2 c ∧ h 2 c ≤ 126) :
    ∃ s, loopF (g_X9_which_l13 (n : Int)) FU (0, 0, g) = some (whP h (h 100 28).toNat, setRow g 122 s) := by
  subst hn
  have hv := r.1
  have hNn := hv.n
  have h41 := (pv_plan hv).1
  have hsea := (pv_sea hv)
  have e121 : g 121 = h 121 := f 121 (by omega) (by omega) (by omega) (by omega)
  have key : ∃ rr : Int × Hp, loopF (g_X9_which_l13 (nN h : Int)) FU (0, 0, g) = some rr ∧ (rr.1 = whP h (h 100 28).toNat ∧ ∃ s, rr.2 = setRow g 122 s) := by
    refine loopF_ex (h 100 28).toNat (fun i (q : Int × Int × Hp) => q.1 = whP h i ∧ q.2.1 = (i : Int) ∧ ∃ s, q.2.2 = setRow g 122 s) ?_ ?_ FU 0 _ (Nat.zero_le _) (fu _ (by omega)) ⟨rfl, rfl, g 122, (setRow_self g 122).symm⟩
    · rintro i ⟨y1, y2, g1⟩ hi ⟨e1, e2, s, hg⟩ self
      dsimp only at e1 e2 hg
      subst e1 e2 hg
      left
      obtain ⟨w0, w1, w2⟩ := hsea.2.1 i hi
      obtain ⟨far, hfar⟩ := Int.eq_ofNat_of_zero_le (show 0 ≤ h 110 (3 * i + 1) by omega)
      have e110 : ∀ s : Nat → Int, setRow g 122 s 110 = h 110 := fun s => by rw [setRow_ne _ _ _ _ (by omega), f 110 (by omega) (by omega) (by omega) (by omega)]
      have i0 := iv_bg r (p := -1) (seed := 1) (by omega) (by omega)
      have iM := ag_iv i0 hv (bgM_ag (g := setRow g 122 s))
      -- what the model's own heap tells is what h tells
      let P2 : Hp := fun p => if p = 100 then g 100 else h p
      have te : TE h P2 := TE.of2 (fun p a b c => by show (if p = 100 then g 100 else h p) = h p; rw [if_neg (by omega)]) (fun k a b => f1 k (by omega))
      have pm : PM P2 g := fun p hp => by
        show g p = if p = 100 then g 100 else h p
        by_cases z : p = 100
        · rw [if_pos z, z]
        · rw [if_neg z, f p (by omega) (by omega) z (by omega)]
      have hv2 := hv.te te
      have iM2 : IV P2 6336 (360 * N) (bgM h (setRow g 122 s) (-1) 1) := iM.te te
      have wv1 := m_wave (q := 122) (far := far) (lvl := h 110 (3 * i + 2)) pm hv2 (by omega) (by omega) iM2 (by omega)
      have wv2 := m_slides (q := 122) pm hv2 (by omega) (iv_waveP (far := far) (lvl := h 110 (3 * i + 2)) iM2 hv2) (by omega)
      obtain ⟨ec, er, en⟩ := te.cn
      have eq1 : ∀ (s : Nat → Int), slidesP P2 (waveP P2 far (h 110 (3 * i + 2)) s) = slidesP h (waveP h far (h 110 (3 * i + 2)) s) := fun s => by
        rw [wave_te te, slides_te te]
      rw [eq1] at wv2
      have ag := wv_ag (k := i) hv (s := h 121) (t := bgM h (setRow g 122 s) (-1) 1) (fun j hj => by rw [bgM_ag j (by omega), bg_lo hj])
      have ee : slidesP h (waveP h far (h 110 (3 * i + 2)) (bgM h (setRow g 122 s) (-1) 1)) = wvR h (bgM h (setRow g 122 s) (-1) 1) i := by
        unfold wvR
        rw [hfar, Int.toNat_natCast]
      rw [ee] at wv2
      unfold g_X9_which_l13
      dsimp only
      rw [e_gF, setRow_ne _ _ _ _ (by omega), f1 28 (by omega), b_neg (by omega), e_cI, e_cI, m_begin (h := h) (by rw [setRow_ne _ _ _ _ (by omega)]; exact e121), e_cV, setRow_setRow, e_cI, e_mul _ _ _ (by omega), e_cI, e_add _ _ _ (by omega), show (3 : Int) * (i : Int) + 1 = ((3 * i + 1 : Nat) : Int) by omega, e_rdn _ _ _ _ _ (by omega), e110, e_cI, e_mul _ _ _ (by omega), e_cI, e_add _ _ _ (by omega), show (3 : Int) * (i : Int) + 2 = ((3 * i + 2 : Nat) : Int) by omega, e_rdn _ _ _ _ _ (by omega), e110, hfar, wv1, e_cV, wv2, e_cV, e_cI, e_cI]
      refine join_exr (fun j36 hj36 => ?_)
      have lp : loopF (g_X9_which_l47 (setRow g 122 (wvR h (bgM h (setRow g 122 s) (-1) 1) i)) j36 (nN h : Int)) FU (1, 0) = j36 (eqP (wvR h (h 121) i) (h 2) (nN h)) := by
        refine loopF_for' (nN h) (fun c => (eqP (wvR h (h 121) i) (h 2) c, (c : Int))) ?_ ?_ rfl (fu _ (by omega))
        · intro c hc self2
          obtain ⟨b1, b2, b3⟩ := hb c hc
          have e101 : g 101 = h 101 := f 101 (by omega) (by omega) (by omega) (by omega)
          have er : setRow g 122 (wvR h (bgM h (setRow g 122 s) (-1) 1) i) 122 c = wvR h (h 121) i c := by rw [setRow_same]; exact ag c (by omega)
          unfold g_X9_which_l47
          dsimp only
          rw [b_neg (by omega)]
          refine join_gen (fun j51 hj51 => ?_)
          have fin : ∀ x, x = eqP (wvR h (h 121) i) (h 2) (c + 1) → j51 x = self2 (eqP (wvR h (h 121) i) (h 2) (c + 1), ((c + 1 : Nat) : Int)) := by
            intro x hx
            rw [hj51, hx, e_add _ _ _ (by omega), show ((c + 1 : Nat) : Int) = (c : Int) + 1 by omega]
          have es : eqP (wvR h (h 121) i) (h 2) (c + 1) = if eqP (wvR h (h 121) i) (h 2) c = 0 then 0 else if wvR h (h 121) i c = h 2 c - 32 then 1 else 0 := rfl
          refine join_gen (fun j55 hj55 => ?_)
          by_cases z : eqP (wvR h (h 121) i) (h 2) c = 0
          · rw [b_pos z, hj55, e_cI]
            exact fin 0 (by rw [es, if_pos z])
          rw [b_neg z, e_cI, e_add _ _ _ (by omega), e_rd _ _ _ _ _ (by omega), show ((0 : Int) + (c : Int)).toNat = c by omega, er, e_rdn _ _ _ _ _ (by omega), setRow_ne _ _ _ _ (by omega), e101, b1, e_cI, e_sub _ _ _ (by omega)]
          by_cases y : wvR h (h 121) i c = h 2 c - 32
          · rw [b_pos y, e_cI]
            exact fin 1 (by rw [es, if_neg z, if_pos y])
          · rw [b_neg y, hj55, e_cI]
            exact fin 0 (by rw [es, if_neg z, if_neg y])
        · intro self2
          unfold g_X9_which_l47
          dsimp only
          rw [b_pos (by omega)]
      rw [lp, hj36]
      refine join_exr (fun j39 hj39 => ?_)
      have es : whP h (i + 1) = if eqP (wvR h (h 121) i) (h 2) (nN h) = 0 then whP h i else bitP (whP h i) i := rfl
      by_cases z : eqP (wvR h (h 121) i) (h 2) (nN h) = 0
      · rw [if_pos z] at es
        have eo : ∀ K : Int → Option (Int × Hp), orI (whP h i) 0 K = K (whP h (i + 1)) := by
          intro K
          show K (iI (whP h i) ||| iI 0).toInt = _
          rw [or_zero (whP_in i), es]
        rw [b_pos z, e_cI, hj39, eo, e_add _ _ _ (by omega)]
        exact ⟨_, ⟨rfl, by (try dsimp only); omega, _, rfl⟩, rfl⟩
      · rw [if_neg z] at es
        have eo : ∀ K : Int → Option (Int × Hp), orI (whP h i) ((iI 1 <<< (iI (i : Int) &&& 31)).toInt) K = K (whP h (i + 1)) := by
          intro K
          rw [es]
          rfl
        have sh : ∀ K : Int → Option (Int × Hp), shlI 1 (i : Int) K = K ((iI 1 <<< (iI (i : Int) &&& 31)).toInt) := fun K => rfl
        rw [b_neg z, e_cI, sh, hj39, eo, e_add _ _ _ (by omega)]
        exact ⟨_, ⟨rfl, by (try dsimp only); omega, _, rfl⟩, rfl⟩
    · rintro ⟨y1, y2, g1⟩ ⟨e1, e2, s, hg⟩ self
      dsimp only at e1 e2 hg
      subst e1 e2 hg
      unfold g_X9_which_l13
      dsimp only
      rw [e_gF, setRow_ne _ _ _ _ (by omega), f1 28 (by omega), b_pos (by omega)]
      exact ⟨_, rfl, rfl, s, rfl⟩
  obtain ⟨⟨z, g2⟩, a, b, s, d⟩ := key
  dsimp only at b d
  exact ⟨s, by rw [a, b, d]⟩
theorem BT_small {x y : Int} (h : BT x y) : (32 ≤ x ∧ x ≤ 126 ↔ 32 ≤ y ∧ y ≤ 126) ∧ (32 ≤ x ∧ x ≤ 126 → y = x) := by
  obtain ⟨h1, h2⟩ := h
  split at h2 <;> constructor <;> (first | omega | (constructor <;> omega))
theorem s_which {N : Nat} {h : Hp} (hN : N ≤ 600) (r : Rel N h) : ∃ z h1 h2, g_X8_which h = some (z, h1) ∧ g_X9_which h1 = some (z, h2) ∧ Rel (N + 1) h2 := by
  have r' := r
  obtain ⟨hv, ⟨c, rb⟩, ⟨v, rs⟩, rp, -, -, ⟨t1, t2, t3⟩, -⟩ := r'
  have hNn := hv.n
  have hnn := PV.nn (P := h)
  obtain ⟨c10, c11, -⟩ := hv.cr
  have kh := k_isHeights (h := h) (n := nN h) hNn.2
  -- what both leave behind
  have fin : ∀ (g : Hp) (s : Nat → Int), TF h g → Rel (N + 1) (setRow (set2 (set2 g 1 1 0) 100 1 0) 122 s) := by
    intro g s f
    have mid : Rel N (setRow g 122 s) := r.quiet (Nat.le_refl _) (fun p hp => by rw [setRow_ne _ _ _ _ (by omega), f p (by omega)]) (fun p h1 h2 => by rw [setRow_ne _ _ _ _ (by omega), f p (by omega)]) (fun p hp => by rw [setRow_ne _ _ _ _ (by omega), f p (by omega)])
    refine mid.tape ⟨?_, ?_, ?_⟩ ?_ ?_ ?_
    · rw [setRow_ne _ _ _ _ (by omega), setRow_ne _ _ _ _ (by omega), set2_np _ _ _ _ _ _ (by omega), set2_same, set2_same]
    · rw [setRow_ne _ _ _ _ (by omega), set2_np _ _ _ _ _ _ (by omega), set2_same]; omega
    · intro k hk
      rw [setRow_ne _ _ _ _ (by omega), setRow_ne _ _ _ _ (by omega), set2_np _ _ _ _ _ _ (by omega), set2_np _ _ _ _ _ _ (by omega), set2_np _ _ _ _ _ _ (by omega), set2_np _ _ _ _ _ _ (by omega), f 2 (by omega), f 101 (by omega)]
      exact t3 k hk
    · intro p a1 a2 a3 a4
      by_cases z : p = 122
      · rw [z, setRow_same, setRow_same]
      · rw [setRow_ne _ _ _ _ z, setRow_ne _ _ _ _ z, set2_ne p a3, set2_ne p a1]
    · intro k hk
      rw [setRow_ne _ _ _ _ (by omega), setRow_ne _ _ _ _ (by omega), set2_np _ _ _ _ _ _ (by omega), set2_nk _ _ _ _ _ _ hk]
    · intro k hk
      rw [setRow_ne _ _ _ _ (by omega), setRow_ne _ _ _ _ (by omega), set2_nk _ _ _ _ _ _ hk, set2_np _ _ _ _ _ _ (by omega)]
  have self0 : ∀ g : Hp, setRow g 122 (g 122) = g := fun g => setRow_self g 122
  unfold g_X8_which g_X9_which
  rcases kh with ⟨b1, b2, b3⟩ | ⟨b1, b3⟩
  rotate_left
  · refine ⟨-1, set2 h 1 1 0, set2 (set2 h 1 1 0) 100 1 0, ?_, ?_, ?_⟩
    · (rw [tf_beach rb TF.rf, k_cells rb.2.2.1 hv, e_cP, b3, e_cP, e_join]; (try dsimp only); rw [b_pos rfl, e_cI, e_cI, e_pF])
    · rw [e_gF, set2_np _ _ _ _ _ _ (by omega), ← t1, e_cI, e_pF, e_gF, set2_nk _ _ _ _ _ _ (by omega), set2_np _ _ _ _ _ _ (by omega), c10, e_gF, set2_nk _ _ _ _ _ _ (by omega), set2_np _ _ _ _ _ _ (by omega), c11, e_mul _ _ _ (by rw [hnn]; omega), hnn]
      by_cases z : h 1 1 = (nN h : Int)
      rotate_left
      · rw [b_neg z, e_cI]
      rw [b_pos z, z, e_cI]
      -- the first byte that is none
      have ex : ¬ ∀ c, c < nN h → 32 ≤ h 2 c ∧ h 2 c ≤ 126 := fun y => b1 ⟨z, y⟩
      refine join_gen (fun j9 hj9 => ?_)
      have loop : ∀ (d i F : Nat), i + d = nN h → d < F → (∀ c, c < i → 32 ≤ h 2 c ∧ h 2 c ≤ 126) → loopF (g_X9_which_l65 (set2 (set2 h 1 1 0) 100 1 0) j9 (nN h : Int)) F (i : Int) = some (-1, set2 (set2 h 1 1 0) 100 1 0) := by
        intro d
        induction d with
        | zero => exact fun i F hi hF hc => absurd (fun c hcn => hc c (by omega)) ex
        | succ d ih =>
          intro i F hi hF hc
          obtain ⟨F, rfl⟩ : ∃ g, F = g + 1 := ⟨F - 1, by omega⟩
          have nx := ih (i + 1) F (by omega) (by omega)
          show g_X9_which_l65 _ j9 _ (loopF _ F) (i : Int) = _
          generalize loopF (g_X9_which_l65 (set2 (set2 h 1 1 0) 100 1 0) j9 (nN h : Int)) F = self at nx
          have bt := BT_small (t3 i (by omega))
          unfold g_X9_which_l65
          rw [b_neg (by omega), e_rdn _ _ _ _ _ (by omega), set2_np _ _ _ _ _ _ (by omega), set2_np _ _ _ _ _ _ (by omega), e_i2l, e_cI, e_cI]
          by_cases y : 32 ≤ h 2 i ∧ h 2 i ≤ 126
          · rw [e_in_t _ _ _ _ (bt.1.mp y), b_neg (by decide), e_add _ _ _ (by omega), show (i : Int) + 1 = ((i + 1 : Nat) : Int) by omega]
            exact nx (fun c hcn => by
              by_cases q : c = i
              · rw [q]; exact y
              · exact hc c (by omega))
          · rw [e_in_f _ _ _ _ (by
              have := fun z => y (bt.1.mpr z)
              omega), b_pos rfl, e_cI]
      exact loop (nN h) 0 FU (by omega) (fu _ (by omega)) (fun c hc => by omega)
    · have := fin h (h 122) TF.rf
      rw [show h 122 = set2 (set2 h 1 1 0) 100 1 0 122 by rw [set2_ne 122 (by omega), set2_ne 122 (by omega)], self0] at this
      exact this
  obtain ⟨g, u1, u2⟩ := k_wavesThatFit r hN rb rs
  have hb : ∀ c, c < nN h → h 101 c = h 2 c ∧ 32 ≤ h 2 c ∧ h 2 c ≤ 126 := fun c hc => ⟨(BT_small (t3 c (by omega))).2 (b2 c hc), b2 c hc⟩
  obtain ⟨s, m1⟩ := m_waves (g := set2 (set2 g 1 1 0) 100 1 0) (n := nN h) r hN rfl (fun p h1 h2 h3 h4 => by rw [set2_ne p h3, set2_ne p h4, u2 p h2]) (fun k hk => by rw [set2_nk _ _ _ _ _ _ hk, set2_np _ _ _ _ _ _ (by omega), u2 100 (by omega)]) hb
  refine ⟨whP h (h 100 28).toNat, set2 g 1 1 0, setRow (set2 (set2 g 1 1 0) 100 1 0) 122 s, ?_, ?_, fin g s u2⟩
  · (rw [tf_beach rb TF.rf, k_cells rb.2.2.1 hv, e_cP, b3, e_cP, e_join]; (try dsimp only); rw [b_neg (by decide), u1, e_cW, e_cI, e_pF])
  · have e100 : g 100 = h 100 := u2 100 (by omega)
    rw [e_gF, set2_np _ _ _ _ _ _ (by omega), e100, ← t1, e_cI, e_pF, e_gF, set2_nk _ _ _ _ _ _ (by omega), set2_np _ _ _ _ _ _ (by omega), e100, c10, e_gF, set2_nk _ _ _ _ _ _ (by omega), set2_np _ _ _ _ _ _ (by omega), e100, c11, e_mul _ _ _ (by rw [hnn]; omega), hnn, b_pos b1, b1, e_cI]
    refine join_gen (fun j9 hj9 => ?_)
    refine loopF_for' (nN h) (fun i => (i : Int)) ?_ ?_ rfl (fu _ (by omega))
    · intro i hi self
      have bt := hb i hi
      unfold g_X9_which_l65
      rw [b_neg (by omega), e_rdn _ _ _ _ _ (by omega), set2_np _ _ _ _ _ _ (by omega), set2_np _ _ _ _ _ _ (by omega), u2 101 (by omega), bt.1, e_i2l, e_cI, e_cI, e_in_t _ _ _ _ bt.2, b_neg (by decide), e_add _ _ _ (by omega), show (i : Int) + 1 = ((i + 1 : Nat) : Int) by omega]
    · intro self
      unfold g_X9_which_l65
      rw [b_pos (by omega), hj9, e_cI, e_cI]
      exact m1
