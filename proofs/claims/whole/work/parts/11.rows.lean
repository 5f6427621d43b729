/-! THE WORLD of all cells that the law made, as a list out of a function; the judgement Ev; a row an instruction -/
abbrev Shp : Type := (Nat × List Nat) ⊕ (Nat × Nat × List Nat)
abbrev EnvT : Type := Nat × va_G × (Nat → ClassId) × (Nat → Nat) × (Nat → Nat) × (Nat → Nat)
def bsA (E : EnvT) : Nat → Prop := fun q => E.1 ≤ q
def npv (ad : Nat → Nat) (x : Int) : Value := if x < 0 then .null else .ref (ad x.toNat)
def fv (ad : Nat → Nat) (x : Int) (c : Nat) : Value := if c = 0 then .int (iI x) else if c = 1 then npv ad x else .ref (ad (c - 2))
def rqv (ad : Nat → Nat) (rs : List Nat) : Nat → Option Nat := fun j => if rs.getD j 0 = 0 then none else some (ad (rs.getD j 0 - 1))
def ent (E : EnvT) (ad : Nat → Nat) (f : Nat → Int) (s : Shp) : va_E := match s with
  | .inl o => .inr (o.1, o.2.mapIdx fun k c => fv ad (f k) c)
  | .inr a => if a.1 < 3 then .inl (E.2.2.1 a.1, a.2.1, .inl fun j => iI (f j)) else .inl (E.2.2.1 a.1, a.2.1, .inr (.inr (.inr (.inr (rqv ad a.2.2)))))
def wl_ (E : EnvT) (ad : Nat → Nat) (h : Hp) (shl : List Shp) : va_W := shl.mapIdx fun p s => (ad p, ent E ad (h p) s)
def tysE (E : EnvT) : List (ClassId × FieldType) := [(E.2.2.1 0, .int), (E.2.2.1 1, .byte), (E.2.2.1 2, .boolean), (E.2.2.1 3, .object RX1), (E.2.2.1 4, .object RX3)]
theorem wl_get {E : EnvT} {ad : Nat → Nat} {h : Hp} {shl : List Shp} {p : Nat} {s : Shp} (hs : shl[p]? = some s) : (wl_ E ad h shl)[p]? = some (ad p, ent E ad (h p) s) := by
  simp [wl_, List.getElem?_mapIdx, hs]
theorem wl_set {E : EnvT} {ad : Nat → Nat} {h h' : Hp} {shl : List Shp} {q : Nat} {sp : Shp} {x : va_E} (hs : shl[q]? = some sp) (hx : x = ent E ad (h' q) sp) (ho : ∀ p, p ≠ q → h' p = h p) :
    (wl_ E ad h shl).set q (ad q, x) = wl_ E ad h' shl := by
  apply List.ext_getElem?
  intro i
  by_cases hi : i = q
  · subst hi
    have hlt : i < (wl_ E ad h shl).length := by
      simp only [wl_, List.length_mapIdx]
      exact (List.getElem?_eq_some_iff.mp hs).1
    rw [List.getElem?_set_self hlt, wl_get hs, hx]
  · rw [List.getElem?_set_ne (fun z => hi z.symm)]
    simp only [wl_, List.getElem?_mapIdx, ho i hi]
theorem mapIdx_get {ad : Nat → Nat} {f : Nat → Int} {cs : List Nat} {k cd : Nat} (hk : cs[k]? = some cd) : (cs.mapIdx fun k c => fv ad (f k) c)[k]? = some (fv ad (f k) cd) := by
  rw [List.getElem?_mapIdx, hk]
  rfl
def tabL : List (String × String × List Int) := [(RX0, "LEAST", T_X0_LEAST), (RX0, "MOST", T_X0_MOST), (RX0, "UNTOLD", T_X0_UNTOLD), (RX2, "LEAST", T_X2_LEAST), (RX2, "MOST", T_X2_MOST), (RX2, "UNTOLD", T_X2_UNTOLD)]
def strL : List (String × Nat × String) := [(RX0, 121, "beach"), (RX0, 123, "sand"), (RX0, 125, "pack"), (RX0, 127, "dry"), (RX0, 129, "damp"), (RX0, 131, "fall"), (RX0, 133, "tire"), (RX0, 135, "hump"), (RX0, 98, "heap"), (RX0, 107, "stone"), (RX0, 112, "flag"), (RX2, 59, "wave"), (RX2, 68, "tide"), (RX2, 74, "reach"), (RX2, 76, "level"), (RX2, 78, "cut"), (RX1, 38, "hand"), (RX1, 69, "dig"), (RX1, 71, "pack"), (RX1, 73, "wet"), (RX1, 75, "wall"), (RX1, 77, "rest"), (RX9, 137, "beach"), (RX9, 143, "heap"), (RX9, 147, "stone"), (RX9, 151, "flag"), (RX9, 104, "sand"), (RX9, 110, "pack"), (RX9, 112, "dry"), (RX9, 114, "damp"), (RX9, 116, "fall"), (RX9, 118, "tire"), (RX9, 120, "hump"), (RX9, 194, "wave"), (RX9, 171, "tide"), (RX9, 173, "reach"), (RX9, 175, "level"), (RX9, 177, "cut"), (RX9, 221, "hand"), (RX9, 213, "dig"), (RX9, 215, "wet"), (RX9, 217, "wall"), (RX9, 219, "rest")]
def nestL : List (String × Nat × MethodName × String) := [(RX8, 9, yX5_init, "TideKeep"), (RX0, 86, yX8_strengthOf, "TideKeep"), (RX8, 44, yX3_init, "TideKeep"), (RX8, 59, yX7_init, "TideKeep"), (RX8, 66, yX6_init, "TideKeep"), (RX6, 11, yX3_init, "TideKeep"), (RX8, 73, yX4_init, "TideKeep"), (RX8, 78, yX1_init, "TideKeep"), (RX7, 49, yX8_strengthOf, "TideKeep")]
def tabD (k : Nat) : List Int := (tabL.getD k ("", "", [])).2.2
def strC (k : Nat) : List Int := ((strL.getD k ("", 0, "")).2.2.toList.map fun c => (c.toNat : Int))
def KKs (E : EnvT) (U : State) (H : Heap) (k : Nat) (q : String × Nat × String) : Prop :=
  vk_R q.1 q.2.1 q.2.2 (E.2.2.2.2.1 k) U ∧ va_O "java/lang/String" (E.2.2.2.2.1 k) (bsA E) U H ∧ va_OF "java/lang/String" "coder" "B" (.int 0) (E.2.2.2.2.1 k) (bsA E) U H ∧ va_OF "java/lang/String" "value" "[B" (.ref (E.2.2.2.2.2 k)) (E.2.2.2.2.1 k) (bsA E) U H ∧
    va_T .byte (E.2.2.2.2.2 k) (strC k).length (fun j => .int (iI ((strC k).getD j 0))) (bsA E) U H
def KK (E : EnvT) (U : State) (H : Heap) : Prop := va_K E.2.1 vwCl (tysE E) U ∧
  (∀ (k : Nat) (q : String × String × List Int), tabL[k]? = some q → va_Z q.1 q.2.1 "[I" (.ref (E.2.2.2.1 k)) (bsA E) U H ∧ va_T .int (E.2.2.2.1 k) q.2.2.length (fun j => .int (iI (q.2.2.getD j 0))) (bsA E) U H) ∧
  (∀ (k : Nat) (q : String × Nat × String), strL[k]? = some q → KKs E U H k q) ∧
  (∀ q ∈ nestL, va_Nw (.methodLinkNest q.1 q.2.1 q.2.2.1 q.2.2.2) U) ∧
  va_Z "java/lang/String" "COMPACT_STRINGS" "Z" (.int 1) (bsA E) U H ∧ va_Zq "jdk/internal/util/Preconditions" "SIOOBE_FORMATTER" "Ljava/util/function/BiFunction;" (bsA E) U H
theorem KK.warm {E : EnvT} {s U : State} {H : Heap} (hW : s.WarmedH U.vm) (h : KK E s H) : KK E U H := by
  obtain ⟨h1, h2, h3, h4, h5, h6⟩ := h
  refine ⟨h1.moved hW.alike, fun k q hk => ⟨(h2 k q hk).1.moved hW.alike, (h2 k q hk).2.moved hW.alike⟩, fun k q hk => ?_, fun q hq => va_Nw.warmM hW (h4 q hq), h5.moved hW.alike, h6.moved hW.alike⟩
  obtain ⟨a, b, c, d, e⟩ := h3 k q hk
  exact ⟨a.warm hW, b.moved hW.alike, c.moved hW.alike, d.moved hW.alike, e.moved hW.alike⟩
theorem KK.same {E : EnvT} {u U : State} {H : Heap} (hv : U.vm = u.vm) (h : KK E u H) : KK E U H := by
  have al : u.vm.Alike U.vm := by rw [hv]; exact Vm.Alike.refl _
  obtain ⟨h1, h2, h3, h4, h5, h6⟩ := h
  refine ⟨h1.moved al, fun k q hk => ⟨(h2 k q hk).1.moved al, (h2 k q hk).2.moved al⟩, fun k q hk => ?_, fun q hq => va_Nw.same rfl hv.symm (h4 q hq), h5.moved al, h6.moved al⟩
  obtain ⟨a, b, c, d, e⟩ := h3 k q hk
  exact ⟨a.same hv, b.moved al, c.moved al, d.moved al, e.moved al⟩
theorem KK.kept {E : EnvT} {U : State} {H H1 : Heap} (h : KK E U H) (hq : ∀ a : Nat, a < H.size → ¬ bsA E a → H1[a]? = H[a]?) : KK E U H1 := by
  obtain ⟨h1, h2, h3, h4, h5, h6⟩ := h
  refine ⟨h1, fun k q hk => ⟨(h2 k q hk).1.kept hq, (h2 k q hk).2.kept hq⟩, fun k q hk => ?_, h4, h5.kept hq, h6.kept hq⟩
  obtain ⟨a, b, c, d, e⟩ := h3 k q hk
  exact ⟨a, b.kept hq, c.kept hq, d.kept hq, e.kept hq⟩
def CW (E : EnvT) (ad : Nat → Nat) (shl : List Shp) (h : Hp) (H : Heap) : Prop := va_P E.2.1 vwCl (wl_ E ad h shl) H ∧ va_D (bsA E) (wl_ E ad h shl) ∧ ∀ p k, inR (h p k)
def World (E : EnvT) (ad : Nat → Nat) (shl : List Shp) (h : Hp) (U : State) : Prop := KK E U U.heap ∧ CW E ad shl h U.heap
theorem World.blind {E : EnvT} {ad : Nat → Nat} {shl : List Shp} {h : Hp} {U : State} {g : JFrame} {mk : MethodId} {a : Array Value} (w : World E ad shl h U) : World E ad shl h (U.calling g mk a) :=
  ⟨KK.same (u := U) rfl w.1, w.2⟩
theorem World.at {E : EnvT} {ad : Nat → Nat} {shl : List Shp} {h : Hp} {s U : State} {H : Heap} {locs : List Loc} (k : KK E s s.heap) (hs : va_S (bsA E) s.heap H locs) (hc : CW E ad shl h H) (hU : U.heap = H) (hW : s.WarmedH U.vm) : World E ad shl h U :=
  ⟨by rw [hU]; exact (k.kept hs.2.1).warm hW, by rw [hU]; exact hc⟩
/-! locals as a list of places -/
def lvp : Nat → List (Option Value) → List (Nat × Value)
  | _, [] => []
  | i, none :: t => lvp (i + 1) t
  | i, some v :: t => (i, v) :: lvp (i + 1) t
theorem mem_lvp : ∀ (L : List (Option Value)) (i j : Nat) (v : Value), (j, v) ∈ lvp i L ↔ i ≤ j ∧ L[j - i]? = some (some v)
  | [], i, j, v => by simp [lvp]
  | none :: t, i, j, v => by
    rw [lvp, mem_lvp t (i + 1) j v]
    constructor
    · rintro ⟨h1, h2⟩
      refine ⟨by omega, ?_⟩
      rw [show j - i = (j - (i + 1)) + 1 by omega, List.getElem?_cons_succ]
      exact h2
    · rintro ⟨h1, h2⟩
      by_cases h : j = i
      · subst h; simp at h2
      · refine ⟨by omega, ?_⟩
        rw [show j - i = (j - (i + 1)) + 1 by omega, List.getElem?_cons_succ] at h2
        exact h2
  | some w :: t, i, j, v => by
    rw [lvp, List.mem_cons, mem_lvp t (i + 1) j v]
    constructor
    · rintro (h | ⟨h1, h2⟩)
      · cases h; simp
      · refine ⟨by omega, ?_⟩
        rw [show j - i = (j - (i + 1)) + 1 by omega, List.getElem?_cons_succ]
        exact h2
    · rintro ⟨h1, h2⟩
      by_cases h : j = i
      · subst h; simp at h2; exact Or.inl (by rw [h2])
      · refine Or.inr ⟨by omega, ?_⟩
        rw [show j - i = (j - (i + 1)) + 1 by omega, List.getElem?_cons_succ] at h2
        exact h2
def lvh (ls : Array Slot) (nL : Nat) (L : List (Option Value)) : Prop := lv_has ls nL (lvp 0 L)
theorem lvh_get {ls : Array Slot} {nL : Nat} {L : List (Option Value)} (h : lvh ls nL L) {i : Nat} {v : Value} (hi : L[i]? = some (some v)) : ls[i]? = some (.val v) :=
  h.2.2 (i, v) ((mem_lvp L 0 i v).mpr ⟨Nat.zero_le _, by simpa using hi⟩)
theorem lvh_sub {ls : Array Slot} {nL : Nat} {L L' : List (Option Value)} (h : lvh ls nL L) (hs : ∀ (i : Nat) (v : Value), L'[i]? = some (some v) → L[i]? = some (some v)) : lvh ls nL L' := by
  refine ⟨h.1, h.2.1, fun q hq => ?_⟩
  have := (mem_lvp L' 0 q.1 q.2).mp hq
  exact lvh_get h (hs _ _ (by simpa using this.2))
def lmask : List Bool → List (Option Value) → List (Option Value)
  | true :: b, x :: l => x :: lmask b l
  | false :: b, _ :: l => none :: lmask b l
  | [], _ => []
  | _, [] => []
theorem lmask_sub : ∀ (b : List Bool) (L : List (Option Value)) (i : Nat) (v : Value), (lmask b L)[i]? = some (some v) → L[i]? = some (some v)
  | [], L, i, v, h => by simp [lmask] at h
  | true :: b, [], i, v, h => by simp [lmask] at h
  | false :: b, [], i, v, h => by simp [lmask] at h
  | true :: b, x :: l, i, v, h => by
    cases i with
    | zero => simpa [lmask] using h
    | succ i => rw [lmask, List.getElem?_cons_succ] at h; rw [List.getElem?_cons_succ]; exact lmask_sub b l i v h
  | false :: b, x :: l, i, v, h => by
    cases i with
    | zero => simp [lmask] at h
    | succ i => rw [lmask, List.getElem?_cons_succ] at h; rw [List.getElem?_cons_succ]; exact lmask_sub b l i v h
def okSet (L : List (Option Value)) (i : Nat) : Bool := match i with
  | 0 => true
  | j + 1 => match L[j]? with
    | some (some (.long _)) => false
    | some (some (.double _)) => false
    | _ => true
theorem okSet_spec {L : List (Option Value)} {i j : Nat} {w : Value} (h : okSet L i = true) (hj : j + 1 = i) (hw : L[j]? = some (some w)) : ¬ w.category = 2 := by
  subst hj
  simp only [okSet, hw] at h
  cases w <;> simp_all [Value.category]
theorem lvh_set {ls' : Array Slot} {nL : Nat} {L : List (Option Value)} {i : Nat} {v : Value} (ho : okSet L i = true) (h : lv_has ls' nL ((i, v) :: (lvp 0 L).filter (fun q => !(q.1 == i) && !(q.1 + 1 == i && q.2.category == 2)))) : lvh ls' nL (L.set i (some v)) := by
  refine ⟨h.1, h.2.1, fun q hq => ?_⟩
  have hm := (mem_lvp (L.set i (some v)) 0 q.1 q.2).mp hq
  have h2 : (L.set i (some v))[q.1]? = some (some q.2) := by simpa using hm.2
  by_cases hqi : q.1 = i
  · have : q = (i, v) := by
      rw [hqi] at h2
      rw [List.getElem?_set] at h2
      simp only [↓reduceIte] at h2
      split at h2
      · exact Prod.ext hqi (by simpa using h2.symm)
      · cases h2
    rw [this]
    exact h.2.2 (i, v) List.mem_cons_self
  · rw [List.getElem?_set_ne (fun z => hqi z.symm)] at h2
    refine h.2.2 q (List.mem_cons_of_mem _ (List.mem_filter.mpr ⟨(mem_lvp L 0 q.1 q.2).mpr ⟨Nat.zero_le _, by simpa using h2⟩, ?_⟩))
    simp only [Bool.and_eq_true, Bool.not_eq_true', beq_eq_false_iff_ne, ne_eq, hqi, not_false_eq_true, true_and, Bool.and_eq_false_iff]
    by_cases hj : q.1 + 1 = i
    · exact Or.inr (by have := okSet_spec ho hj h2; simpa using this)
    · exact Or.inl (by simpa using hj)
theorem lvh_set2 {ls' : Array Slot} {nL : Nat} {L : List (Option Value)} {i : Nat} {v : Value} (ho : okSet L i = true) (h : lv_has ls' nL ((i, v) :: (lvp 0 L).filter (fun q => !(q.1 == i) && (!(q.1 == i + 1) && !(q.1 + 1 == i && q.2.category == 2))))) : lvh ls' nL ((L.set i (some v)).set (i + 1) none) := by
  refine ⟨h.1, h.2.1, fun q hq => ?_⟩
  have hm := (mem_lvp ((L.set i (some v)).set (i + 1) none) 0 q.1 q.2).mp hq
  have h2 : ((L.set i (some v)).set (i + 1) none)[q.1]? = some (some q.2) := by simpa using hm.2
  by_cases hq1 : q.1 = i + 1
  · rw [hq1, List.getElem?_set] at h2
    simp only [↓reduceIte] at h2
    split at h2 <;> cases h2
  rw [List.getElem?_set_ne (fun z => hq1 z.symm)] at h2
  by_cases hqi : q.1 = i
  · have : q = (i, v) := by
      rw [hqi] at h2
      rw [List.getElem?_set] at h2
      simp only [↓reduceIte] at h2
      split at h2
      · exact Prod.ext hqi (by simpa using h2.symm)
      · cases h2
    rw [this]
    exact h.2.2 (i, v) List.mem_cons_self
  · rw [List.getElem?_set_ne (fun z => hqi z.symm)] at h2
    refine h.2.2 q (List.mem_cons_of_mem _ (List.mem_filter.mpr ⟨(mem_lvp L 0 q.1 q.2).mpr ⟨Nat.zero_le _, by simpa using h2⟩, ?_⟩))
    simp only [Bool.and_eq_true, Bool.not_eq_true', beq_eq_false_iff_ne, ne_eq, hqi, hq1, not_false_eq_true, true_and, Bool.and_eq_false_iff]
    by_cases hj : q.1 + 1 = i
    · exact Or.inr (by have := okSet_spec ho hj h2; simpa using this)
    · exact Or.inl (by simpa using hj)
def Cx (E : EnvT) (p : Program) (s : State) (m : MethodId) (args : Array Value) (meth : Method) (c : Code) (cc : ByteArray) (own : String) (nL : Nat) (ret : Option FieldType) : Prop :=
  p.tables.exec = Jvm.exec ∧ c.code = cc ∧ c.maxLocals = nL ∧ s.vm.findClass own = some m.cls ∧ (∀ w ∈ gw, w.before args s = true) ∧ meth.sig.returnType = ret ∧ meth.locks = false ∧ KK E s s.heap
def Ev (E : EnvT) (ad : Nat → Nat) (shl : List Shp) (p : Program) (l : Launch) (e : Env) (Rm : Room) (s : State) (m : MethodId) (args : Array Value) (below : List Frame) (meth : Method) (c : Code) (cells slots : Nat) (Q : State → Prop) (nL : Nat) (h : Hp) (pc : Nat) (L : List (Option Value)) (S : List Value) : Prop :=
  ∀ (H : Heap) (locs : List Loc) (ls : Array Slot), CW E ad shl h H → va_S (bsA E) s.heap H locs → lvh ls nL L → W p l e Rm s m args below meth c H locs cells slots Q (F0 m pc ls S)
section ROWS
variable {E : EnvT} {ad : Nat → Nat} {shl : List Shp} {p : Program} {l : Launch} {e : Env} {Rm : Room} {s : State} {m : MethodId} {args : Array Value} {below : List Frame} {meth : Method} {c : Code} {cells slots : Nat} {Q : State → Prop} {nL : Nat} {cc : ByteArray} {own : String} {ret : Option FieldType}
variable {h : Hp} {pc : Nat} {L : List (Option Value)} {S : List Value} {R α : Type} {res : R}
theorem r_mask (b : List Bool) {L' : List (Option Value)} (hb : lmask b L = L') (kk : Ev E ad shl p l e Rm s m args below meth c cells slots Q nL h pc L' S) : Ev E ad shl p l e Rm s m args below meth c cells slots Q nL h pc L S :=
  fun H locs ls hc hs hv => kk H locs ls hc hs (lvh_sub hv (fun i v q => lmask_sub b L i v (by rw [hb]; exact q)))
-- joins and loops
theorem r_join {J : α → Option R} {K : (α → Option R) → Option R} {G : Prop} (hG : joinF J K = some res) (P : α → Prop) (hJ : ∀ a, J a = some res → P a) (kk : ∀ j : α → Option R, (∀ a, j a = some res → P a) → K j = some res → G) : G := kk J hJ hG
theorem r_loop {σ : Type} {body : (σ → Option R) → σ → Option R} (P : σ → Prop) (step : ∀ self : σ → Option R, (∀ q, self q = some res → P q) → ∀ q, body self q = some res → P q) : ∀ (n : Nat) (q : σ), loopF body n q = some res → P q
  | 0, q, h => by simp [loopF] at h
  | n + 1, q, h => step (loopF body n) (fun q hq => r_loop P step n q hq) q h
-- constants and locals
theorem r_iconst (X : Cx E p s m args meth c cc own nL ret) {n : Int} {K : Int → Option R} (hd : decode cc pc = .ok (.iconst n, 1)) (hG : cI n K = some res) (hv : (Int32.ofInt n).toInt = n) (kk : ∀ Z : Int32, K Z.toInt = some res → Ev E ad shl p l e Rm s m args below meth c cells slots Q nL h (pc + 1) L (.int Z :: S)) : Ev E ad shl p l e Rm s m args below meth c cells slots Q nL h pc L S :=
  fun H locs ls hc hs hl => lv_iconst X.1 X.2.1 hd rfl (kk (Int32.ofInt n) (by rw [hv]; exact hG) H locs ls hc hs hl)
theorem r_bipush (X : Cx E p s m args meth c cc own nL ret) {n : Int} {K : Int → Option R} (hd : decode cc pc = .ok (.bipush n, 2)) (hG : cI n K = some res) (hv : ((Int8.ofInt n).toInt32).toInt = n) (kk : ∀ Z : Int32, K Z.toInt = some res → Ev E ad shl p l e Rm s m args below meth c cells slots Q nL h (pc + 2) L (.int Z :: S)) : Ev E ad shl p l e Rm s m args below meth c cells slots Q nL h pc L S :=
  fun H locs ls hc hs hl => lv_bipush X.1 X.2.1 hd rfl (kk ((Int8.ofInt n).toInt32) (by rw [hv]; exact hG) H locs ls hc hs hl)
theorem r_sipush (X : Cx E p s m args meth c cc own nL ret) {n : Int} {K : Int → Option R} (hd : decode cc pc = .ok (.sipush n, 3)) (hG : cI n K = some res) (hv : ((Int16.ofInt n).toInt32).toInt = n) (kk : ∀ Z : Int32, K Z.toInt = some res → Ev E ad shl p l e Rm s m args below meth c cells slots Q nL h (pc + 3) L (.int Z :: S)) : Ev E ad shl p l e Rm s m args below meth c cells slots Q nL h pc L S :=
  fun H locs ls hc hs hl => lv_sipush X.1 X.2.1 hd rfl (kk ((Int16.ofInt n).toInt32) (by rw [hv]; exact hG) H locs ls hc hs hl)
theorem r_ldc (X : Cx E p s m args meth c cc own nL ret) {n : Int} {v : Int32} {idx : Nat} {K : Int → Option R} (hd : decode cc pc = .ok (.ldc idx, 2)) (w : Cond.constant own idx v ∈ gw) (hG : cI n K = some res) (hv : v.toInt = n) (kk : ∀ Z : Int32, K Z.toInt = some res → Ev E ad shl p l e Rm s m args below meth c cells slots Q nL h (pc + 2) L (.int Z :: S)) : Ev E ad shl p l e Rm s m args below meth c cells slots Q nL h pc L S :=
  fun H locs ls hc hs hl => lv_ldc X.1 X.2.1 X.2.2.2.1 (X.2.2.2.2.1 _ w) hd (kk v (by rw [hv]; exact hG) H locs ls hc hs hl)
theorem r_ldc2 (X : Cx E p s m args meth c cc own nL ret) {n : Int} {v : Int64} {idx : Nat} {K : Int → Option R} (hd : decode cc pc = .ok (.ldc2_w idx, 3)) (w : Cond.constantLong own idx v ∈ gw) (hG : cI n K = some res) (hv : v.toInt = n) (kk : ∀ Z : Int64, K Z.toInt = some res → Ev E ad shl p l e Rm s m args below meth c cells slots Q nL h (pc + 3) L (.long Z :: S)) : Ev E ad shl p l e Rm s m args below meth c cells slots Q nL h pc L S :=
  fun H locs ls hc hs hl => lv_ldc2 X.1 X.2.1 X.2.2.2.1 (X.2.2.2.2.1 _ w) hd (kk v (by rw [hv]; exact hG) H locs ls hc hs hl)
theorem r_lconst (X : Cx E p s m args meth c cc own nL ret) {n : Fin 2} {z : Int} {K : Int → Option R} (hd : decode cc pc = .ok (.lconst n, 1)) (hG : cI z K = some res) (hv : (Int64.ofNat (n : Nat)).toInt = z) (kk : ∀ Z : Int64, K Z.toInt = some res → Ev E ad shl p l e Rm s m args below meth c cells slots Q nL h (pc + 1) L (.long Z :: S)) : Ev E ad shl p l e Rm s m args below meth c cells slots Q nL h pc L S :=
  fun H locs ls hc hs hl => lv_lconst X.1 X.2.1 hd rfl (kk _ (by rw [hv]; exact hG) H locs ls hc hs hl)
theorem r_null (X : Cx E p s m args meth c cc own nL ret) (hd : decode cc pc = .ok (.aconst_null, 1)) (kk : Ev E ad shl p l e Rm s m args below meth c cells slots Q nL h (pc + 1) L (npv ad (-1) :: S)) : Ev E ad shl p l e Rm s m args below meth c cells slots Q nL h pc L S :=
  fun H locs ls hc hs hl => lv_null X.1 X.2.1 hd (kk H locs ls hc hs hl)
theorem r_iload_n (X : Cx E p s m args meth c cc own nL ret) {k : Fin 4} {i : Nat} {x : Int32} (hd : decode cc pc = .ok (.iload_n k, 1)) (hi : (k : Nat) = i) (hl : L[i]? = some (some (.int x))) (kk : Ev E ad shl p l e Rm s m args below meth c cells slots Q nL h (pc + 1) L (.int x :: S)) : Ev E ad shl p l e Rm s m args below meth c cells slots Q nL h pc L S :=
  fun H locs ls hc hs hv => lv_iload_n X.1 X.2.1 hd hi (lvh_get hv hl) (kk H locs ls hc hs hv)
theorem r_iload (X : Cx E p s m args meth c cc own nL ret) {i : Nat} {x : Int32} (hd : decode cc pc = .ok (.iload i, 2)) (hl : L[i]? = some (some (.int x))) (kk : Ev E ad shl p l e Rm s m args below meth c cells slots Q nL h (pc + 2) L (.int x :: S)) : Ev E ad shl p l e Rm s m args below meth c cells slots Q nL h pc L S :=
  fun H locs ls hc hs hv => lv_iload X.1 X.2.1 hd (lvh_get hv hl) (kk H locs ls hc hs hv)
theorem r_lload_n (X : Cx E p s m args meth c cc own nL ret) {k : Fin 4} {i : Nat} {x : Int64} (hd : decode cc pc = .ok (.lload_n k, 1)) (hi : (k : Nat) = i) (hl : L[i]? = some (some (.long x))) (kk : Ev E ad shl p l e Rm s m args below meth c cells slots Q nL h (pc + 1) L (.long x :: S)) : Ev E ad shl p l e Rm s m args below meth c cells slots Q nL h pc L S :=
  fun H locs ls hc hs hv => lv_lload_n X.1 X.2.1 hd hi (lvh_get hv hl) (kk H locs ls hc hs hv)
theorem r_lload (X : Cx E p s m args meth c cc own nL ret) {i : Nat} {x : Int64} (hd : decode cc pc = .ok (.lload i, 2)) (hl : L[i]? = some (some (.long x))) (kk : Ev E ad shl p l e Rm s m args below meth c cells slots Q nL h (pc + 2) L (.long x :: S)) : Ev E ad shl p l e Rm s m args below meth c cells slots Q nL h pc L S :=
  fun H locs ls hc hs hv => lv_lload X.1 X.2.1 hd (lvh_get hv hl) (kk H locs ls hc hs hv)
theorem r_aload_n (X : Cx E p s m args meth c cc own nL ret) {k : Fin 4} {i : Nat} {x : Nat} (hd : decode cc pc = .ok (.aload_n k, 1)) (hi : (k : Nat) = i) (hl : L[i]? = some (some (.ref x))) (kk : Ev E ad shl p l e Rm s m args below meth c cells slots Q nL h (pc + 1) L (.ref x :: S)) : Ev E ad shl p l e Rm s m args below meth c cells slots Q nL h pc L S :=
  fun H locs ls hc hs hv => lv_aload_n X.1 X.2.1 hd hi (lvh_get hv hl) (kk H locs ls hc hs hv)
theorem r_aload (X : Cx E p s m args meth c cc own nL ret) {i : Nat} {x : Nat} (hd : decode cc pc = .ok (.aload i, 2)) (hl : L[i]? = some (some (.ref x))) (kk : Ev E ad shl p l e Rm s m args below meth c cells slots Q nL h (pc + 2) L (.ref x :: S)) : Ev E ad shl p l e Rm s m args below meth c cells slots Q nL h pc L S :=
  fun H locs ls hc hs hv => lv_aload X.1 X.2.1 hd (lvh_get hv hl) (kk H locs ls hc hs hv)
theorem r_aloadV_n (X : Cx E p s m args meth c cc own nL ret) {k : Fin 4} {i : Nat} {x : Int} (hd : decode cc pc = .ok (.aload_n k, 1)) (hi : (k : Nat) = i) (hl : L[i]? = some (some (npv ad x))) (kk : Ev E ad shl p l e Rm s m args below meth c cells slots Q nL h (pc + 1) L (npv ad x :: S)) : Ev E ad shl p l e Rm s m args below meth c cells slots Q nL h pc L S := by
  intro H locs ls hc hs hv
  have hg := lvh_get hv hl
  have k1 := kk H locs ls hc hs hv
  unfold npv at hg k1
  split at hg
  · rw [if_pos (by assumption)] at k1
    exact lv_aload_nN X.1 X.2.1 hd hi hg k1
  · rw [if_neg (by assumption)] at k1
    exact lv_aload_n X.1 X.2.1 hd hi hg k1
theorem r_aloadV (X : Cx E p s m args meth c cc own nL ret) {i : Nat} {x : Int} (hd : decode cc pc = .ok (.aload i, 2)) (hl : L[i]? = some (some (npv ad x))) (kk : Ev E ad shl p l e Rm s m args below meth c cells slots Q nL h (pc + 2) L (npv ad x :: S)) : Ev E ad shl p l e Rm s m args below meth c cells slots Q nL h pc L S := by
  intro H locs ls hc hs hv
  have hg := lvh_get hv hl
  have k1 := kk H locs ls hc hs hv
  unfold npv at hg k1
  split at hg
  · rw [if_pos (by assumption)] at k1
    exact lv_aloadN X.1 X.2.1 hd hg k1
  · rw [if_neg (by assumption)] at k1
    exact lv_aload X.1 X.2.1 hd hg k1
theorem r_astoreV_n (X : Cx E p s m args meth c cc own nL ret) {k : Fin 4} {i : Nat} {x : Int} {L' : List (Option Value)} (hd : decode cc pc = .ok (.astore_n k, 1)) (hi : (k : Nat) = i) (hn : i < nL) (ho : okSet L i = true) (hL : L.set i (some (npv ad x)) = L') (kk : Ev E ad shl p l e Rm s m args below meth c cells slots Q nL h (pc + 1) L' S) : Ev E ad shl p l e Rm s m args below meth c cells slots Q nL h pc L (npv ad x :: S) := by
  intro H locs ls hc hs hv
  have k1 := fun ls' hl => kk H locs ls' hc hs hl
  subst hL
  unfold npv at k1 ⊢
  split
  · rw [if_pos (by assumption)] at k1
    exact lv_astore_nN X.1 X.2.1 hd hi hv hn rfl (fun ls' hl => k1 ls' (lvh_set ho hl))
  · rw [if_neg (by assumption)] at k1
    exact lv_astore_n X.1 X.2.1 hd hi hv hn rfl (fun ls' hl => k1 ls' (lvh_set ho hl))
theorem r_istore_n (X : Cx E p s m args meth c cc own nL ret) {k : Fin 4} {i : Nat} {x : Int32} {L' : List (Option Value)} (hd : decode cc pc = .ok (.istore_n k, 1)) (hi : (k : Nat) = i) (hn : i < nL) (ho : okSet L i = true) (hL : L.set i (some (.int x)) = L') (kk : Ev E ad shl p l e Rm s m args below meth c cells slots Q nL h (pc + 1) L' S) : Ev E ad shl p l e Rm s m args below meth c cells slots Q nL h pc L (.int x :: S) :=
  fun H locs ls hc hs hv => lv_istore_n X.1 X.2.1 hd hi hv hn rfl (fun ls' hl => kk H locs ls' hc hs (by rw [← hL]; exact lvh_set ho hl))
theorem r_istore (X : Cx E p s m args meth c cc own nL ret) {i : Nat} {x : Int32} {L' : List (Option Value)} (hd : decode cc pc = .ok (.istore i, 2)) (hn : i < nL) (ho : okSet L i = true) (hL : L.set i (some (.int x)) = L') (kk : Ev E ad shl p l e Rm s m args below meth c cells slots Q nL h (pc + 2) L' S) : Ev E ad shl p l e Rm s m args below meth c cells slots Q nL h pc L (.int x :: S) :=
  fun H locs ls hc hs hv => lv_istore X.1 X.2.1 hd hv hn rfl (fun ls' hl => kk H locs ls' hc hs (by rw [← hL]; exact lvh_set ho hl))
theorem r_lstore_n (X : Cx E p s m args meth c cc own nL ret) {k : Fin 4} {i : Nat} {x : Int64} {L' : List (Option Value)} (hd : decode cc pc = .ok (.lstore_n k, 1)) (hi : (k : Nat) = i) (hn : i + 1 < nL) (ho : okSet L i = true) (hL : (L.set i (some (.long x))).set (i + 1) none = L') (kk : Ev E ad shl p l e Rm s m args below meth c cells slots Q nL h (pc + 1) L' S) : Ev E ad shl p l e Rm s m args below meth c cells slots Q nL h pc L (.long x :: S) :=
  fun H locs ls hc hs hv => lv_lstore_n X.1 X.2.1 hd hi hv hn rfl (fun ls' hl => kk H locs ls' hc hs (by rw [← hL]; exact lvh_set2 ho hl))
theorem r_astore_n (X : Cx E p s m args meth c cc own nL ret) {k : Fin 4} {i : Nat} {x : Nat} {L' : List (Option Value)} (hd : decode cc pc = .ok (.astore_n k, 1)) (hi : (k : Nat) = i) (hn : i < nL) (ho : okSet L i = true) (hL : L.set i (some (.ref x)) = L') (kk : Ev E ad shl p l e Rm s m args below meth c cells slots Q nL h (pc + 1) L' S) : Ev E ad shl p l e Rm s m args below meth c cells slots Q nL h pc L (.ref x :: S) :=
  fun H locs ls hc hs hv => lv_astore_n X.1 X.2.1 hd hi hv hn rfl (fun ls' hl => kk H locs ls' hc hs (by rw [← hL]; exact lvh_set ho hl))
theorem r_astore (X : Cx E p s m args meth c cc own nL ret) {i : Nat} {x : Nat} {L' : List (Option Value)} (hd : decode cc pc = .ok (.astore i, 2)) (hn : i < nL) (ho : okSet L i = true) (hL : L.set i (some (.ref x)) = L') (kk : Ev E ad shl p l e Rm s m args below meth c cells slots Q nL h (pc + 2) L' S) : Ev E ad shl p l e Rm s m args below meth c cells slots Q nL h pc L (.ref x :: S) :=
  fun H locs ls hc hs hv => lv_astore X.1 X.2.1 hd hv hn rfl (fun ls' hl => kk H locs ls' hc hs (by rw [← hL]; exact lvh_set ho hl))
theorem r_iinc (X : Cx E p s m args meth c cc own nL ret) {i : Nat} {n : Int} {x : Int32} {K : Int → Option R} {L : List (Option Value)} {L' : Int32 → List (Option Value)} (hd : decode cc pc = .ok (.iinc i n, 3)) (hn : i < nL) (ho : okSet L i = true) (hl : L[i]? = some (some (.int x))) (hv : (Int32.ofInt n).toInt = n) (hL : ∀ Z, L.set i (some (.int Z)) = L' Z) (hG : addI x.toInt n K = some res)
    (kk : ∀ Z : Int32, K Z.toInt = some res → Ev E ad shl p l e Rm s m args below meth c cells slots Q nL h (pc + 3) (L' Z) S) : Ev E ad shl p l e Rm s m args below meth c cells slots Q nL h pc L S := by
  intro H locs ls hc hs hl0
  obtain ⟨k, hk⟩ := List.getElem?_of_mem ((mem_lvp L 0 i (.int x)).mpr ⟨Nat.zero_le _, by simpa using hl⟩)
  refine lv_iinc X.1 X.2.1 hd hl0 hk rfl hn rfl (fun ls' hl' => ?_)
  refine kk (x + Int32.ofInt n) ?_ H locs ls' hc hs (by rw [← hL]; exact lvh_set ho hl')
  rw [tI_add, hv]
  exact hG
theorem r_dup (X : Cx E p s m args meth c cc own nL ret) {v : Value} (hd : decode cc pc = .ok (.dup, 1)) (hv : v.category = 1) (kk : Ev E ad shl p l e Rm s m args below meth c cells slots Q nL h (pc + 1) L (v :: v :: S)) : Ev E ad shl p l e Rm s m args below meth c cells slots Q nL h pc L (v :: S) :=
  fun H locs ls hc hs hl => lv_dup X.1 X.2.1 hd hv (kk H locs ls hc hs hl)
theorem r_dup2 (X : Cx E p s m args meth c cc own nL ret) {v w : Value} (hd : decode cc pc = .ok (.dup2, 1)) (hv : v.category = 1) (hw : w.category = 1) (kk : Ev E ad shl p l e Rm s m args below meth c cells slots Q nL h (pc + 1) L (v :: w :: v :: w :: S)) : Ev E ad shl p l e Rm s m args below meth c cells slots Q nL h pc L (v :: w :: S) :=
  fun H locs ls hc hs hl => lv_dup2_11 X.1 X.2.1 hd hv hw (kk H locs ls hc hs hl)
theorem r_pop (X : Cx E p s m args meth c cc own nL ret) {v : Value} (hd : decode cc pc = .ok (.pop, 1)) (hv : v.category = 1) (kk : Ev E ad shl p l e Rm s m args below meth c cells slots Q nL h (pc + 1) L S) : Ev E ad shl p l e Rm s m args below meth c cells slots Q nL h pc L (v :: S) :=
  fun H locs ls hc hs hl => lv_pop X.1 X.2.1 hd hv (kk H locs ls hc hs hl)
-- arithmetic
theorem r_iadd (X : Cx E p s m args meth c cc own nL ret) {x y : Int32} {K : Int → Option R} (hd : decode cc pc = .ok (.iadd, 1)) (hG : addI x.toInt y.toInt K = some res) (kk : ∀ Z : Int32, K Z.toInt = some res → Ev E ad shl p l e Rm s m args below meth c cells slots Q nL h (pc + 1) L (.int Z :: S)) : Ev E ad shl p l e Rm s m args below meth c cells slots Q nL h pc L (.int y :: .int x :: S) :=
  fun H locs ls hc hs hl => lv_iadd X.1 X.2.1 hd (kk (x + y) (by rw [tI_add]; exact hG) H locs ls hc hs hl)
theorem r_isub (X : Cx E p s m args meth c cc own nL ret) {x y : Int32} {K : Int → Option R} (hd : decode cc pc = .ok (.isub, 1)) (hG : subI x.toInt y.toInt K = some res) (kk : ∀ Z : Int32, K Z.toInt = some res → Ev E ad shl p l e Rm s m args below meth c cells slots Q nL h (pc + 1) L (.int Z :: S)) : Ev E ad shl p l e Rm s m args below meth c cells slots Q nL h pc L (.int y :: .int x :: S) :=
  fun H locs ls hc hs hl => lv_isub X.1 X.2.1 hd (kk (x - y) (by rw [tI_sub]; exact hG) H locs ls hc hs hl)
theorem r_imul (X : Cx E p s m args meth c cc own nL ret) {x y : Int32} {K : Int → Option R} (hd : decode cc pc = .ok (.imul, 1)) (hG : mulI x.toInt y.toInt K = some res) (kk : ∀ Z : Int32, K Z.toInt = some res → Ev E ad shl p l e Rm s m args below meth c cells slots Q nL h (pc + 1) L (.int Z :: S)) : Ev E ad shl p l e Rm s m args below meth c cells slots Q nL h pc L (.int y :: .int x :: S) :=
  fun H locs ls hc hs hl => lv_imul X.1 X.2.1 hd (kk (x * y) (by rw [tI_mul]; exact hG) H locs ls hc hs hl)
theorem r_iand (X : Cx E p s m args meth c cc own nL ret) {x y : Int32} {K : Int → Option R} (hd : decode cc pc = .ok (.iand, 1)) (hG : andI x.toInt y.toInt K = some res) (kk : ∀ Z : Int32, K Z.toInt = some res → Ev E ad shl p l e Rm s m args below meth c cells slots Q nL h (pc + 1) L (.int Z :: S)) : Ev E ad shl p l e Rm s m args below meth c cells slots Q nL h pc L (.int y :: .int x :: S) :=
  fun H locs ls hc hs hl => lv_iand X.1 X.2.1 hd (kk (x &&& y) (by unfold andI at hG; rw [iI_of, iI_of] at hG; exact hG) H locs ls hc hs hl)
theorem r_ior (X : Cx E p s m args meth c cc own nL ret) {x y : Int32} {K : Int → Option R} (hd : decode cc pc = .ok (.ior, 1)) (hG : orI x.toInt y.toInt K = some res) (kk : ∀ Z : Int32, K Z.toInt = some res → Ev E ad shl p l e Rm s m args below meth c cells slots Q nL h (pc + 1) L (.int Z :: S)) : Ev E ad shl p l e Rm s m args below meth c cells slots Q nL h pc L (.int y :: .int x :: S) :=
  fun H locs ls hc hs hl => lv_ior X.1 X.2.1 hd (kk (x ||| y) (by unfold orI at hG; rw [iI_of, iI_of] at hG; exact hG) H locs ls hc hs hl)
theorem r_ishl (X : Cx E p s m args meth c cc own nL ret) {x y : Int32} {K : Int → Option R} (hd : decode cc pc = .ok (.ishl, 1)) (hG : shlI x.toInt y.toInt K = some res) (kk : ∀ Z : Int32, K Z.toInt = some res → Ev E ad shl p l e Rm s m args below meth c cells slots Q nL h (pc + 1) L (.int Z :: S)) : Ev E ad shl p l e Rm s m args below meth c cells slots Q nL h pc L (.int y :: .int x :: S) :=
  fun H locs ls hc hs hl => lv_ishl X.1 X.2.1 hd (kk (x <<< (y &&& 31)) (by unfold shlI at hG; rw [iI_of, iI_of] at hG; exact hG) H locs ls hc hs hl)
theorem r_ishr (X : Cx E p s m args meth c cc own nL ret) {x y : Int32} {K : Int → Option R} (hd : decode cc pc = .ok (.ishr, 1)) (hG : shrI x.toInt y.toInt K = some res) (kk : ∀ Z : Int32, K Z.toInt = some res → Ev E ad shl p l e Rm s m args below meth c cells slots Q nL h (pc + 1) L (.int Z :: S)) : Ev E ad shl p l e Rm s m args below meth c cells slots Q nL h pc L (.int y :: .int x :: S) :=
  fun H locs ls hc hs hl => lv_ishr X.1 X.2.1 hd (kk (x >>> (y &&& 31)) (by unfold shrI at hG; rw [iI_of, iI_of] at hG; exact hG) H locs ls hc hs hl)
theorem r_idiv (X : Cx E p s m args meth c cc own nL ret) {x y : Int32} {K : Int → Option R} (hd : decode cc pc = .ok (.idiv, 1)) (hG : divI x.toInt y.toInt K = some res) (kk : ∀ Z : Int32, K Z.toInt = some res → Ev E ad shl p l e Rm s m args below meth c cells slots Q nL h (pc + 1) L (.int Z :: S)) : Ev E ad shl p l e Rm s m args below meth c cells slots Q nL h pc L (.int y :: .int x :: S) := by
  intro H locs ls hc hs hl
  unfold divI at hG
  split at hG
  next => cases hG
  next hne => exact lv_idiv X.1 X.2.1 hd (fun q => hne (by rw [q]; rfl)) (kk (x / y) (by rw [tI_div]; exact hG) H locs ls hc hs hl)
theorem r_irem (X : Cx E p s m args meth c cc own nL ret) {x y : Int32} {K : Int → Option R} (hd : decode cc pc = .ok (.irem, 1)) (hG : remI x.toInt y.toInt K = some res) (kk : ∀ Z : Int32, K Z.toInt = some res → Ev E ad shl p l e Rm s m args below meth c cells slots Q nL h (pc + 1) L (.int Z :: S)) : Ev E ad shl p l e Rm s m args below meth c cells slots Q nL h pc L (.int y :: .int x :: S) := by
  intro H locs ls hc hs hl
  unfold remI at hG
  split at hG
  next => cases hG
  next hne => exact lv_irem X.1 X.2.1 hd (fun q => hne (by rw [q]; rfl)) (kk (x - x / y * y) (by rw [tI_rem]; exact hG) H locs ls hc hs hl)
theorem r_i2b (X : Cx E p s m args meth c cc own nL ret) {x : Int32} {K : Int → Option R} (hd : decode cc pc = .ok (.i2b, 1)) (hG : i2bI x.toInt K = some res) (kk : ∀ Z : Int32, K Z.toInt = some res → Ev E ad shl p l e Rm s m args below meth c cells slots Q nL h (pc + 1) L (.int Z :: S)) : Ev E ad shl p l e Rm s m args below meth c cells slots Q nL h pc L (.int x :: S) :=
  fun H locs ls hc hs hl => lv_i2b X.1 X.2.1 hd rfl (kk (x.toInt8.toInt32) (by unfold i2bI nb at hG; rw [iI_of] at hG; exact hG) H locs ls hc hs hl)
theorem r_i2l (X : Cx E p s m args meth c cc own nL ret) {x : Int32} {K : Int → Option R} (hd : decode cc pc = .ok (.i2l, 1)) (hG : i2lI x.toInt K = some res) (kk : ∀ Z : Int64, K Z.toInt = some res → Ev E ad shl p l e Rm s m args below meth c cells slots Q nL h (pc + 1) L (.long Z :: S)) : Ev E ad shl p l e Rm s m args below meth c cells slots Q nL h pc L (.int x :: S) :=
  fun H locs ls hc hs hl => lv_i2l X.1 X.2.1 hd rfl (kk x.toInt64 (by rw [Int32.toInt_toInt64]; exact hG) H locs ls hc hs hl)
theorem r_l2i (X : Cx E p s m args meth c cc own nL ret) {x : Int64} {K : Int → Option R} (hd : decode cc pc = .ok (.l2i, 1)) (hG : l2iI x.toInt K = some res) (kk : ∀ Z : Int32, K Z.toInt = some res → Ev E ad shl p l e Rm s m args below meth c cells slots Q nL h (pc + 1) L (.int Z :: S)) : Ev E ad shl p l e Rm s m args below meth c cells slots Q nL h pc L (.long x :: S) :=
  fun H locs ls hc hs hl => lv_l2i X.1 X.2.1 hd rfl (kk x.toInt32 (by rw [Int64.toInt_toInt32]; show K (x.toInt.bmod 4294967296) = _; rw [bmod32]; exact hG) H locs ls hc hs hl)
theorem r_lcmp (X : Cx E p s m args meth c cc own nL ret) {x y : Int64} {K : Int → Option R} (hd : decode cc pc = .ok (.lcmp, 1)) (hG : lcmpI x.toInt y.toInt K = some res) (kk : ∀ Z : Int32, K Z.toInt = some res → Ev E ad shl p l e Rm s m args below meth c cells slots Q nL h (pc + 1) L (.int Z :: S)) : Ev E ad shl p l e Rm s m args below meth c cells slots Q nL h pc L (.long y :: .long x :: S) := by
  intro H locs ls hc hs hl
  refine W.lcmp X.1 X.2.1 hd (kk (lg_cmp x y) ?_ H locs ls hc hs hl)
  have e : (lg_cmp x y).toInt = if y.toInt < x.toInt then 1 else if x.toInt = y.toInt then 0 else -1 := by
    unfold lg_cmp
    by_cases h1 : y.toInt < x.toInt
    · rw [if_pos (show x > y from Int64.lt_iff_toInt_lt.mpr h1), if_pos h1]; rfl
    · rw [if_neg (show ¬ x > y from fun q => h1 (Int64.lt_iff_toInt_lt.mp q)), if_neg h1]
      by_cases h2 : x.toInt = y.toInt
      · rw [if_pos (Int64.toInt_inj.mp h2), if_pos h2]; rfl
      · rw [if_neg (fun q => h2 (by rw [q])), if_neg h2]; rfl
  rw [e]
  exact hG
theorem r_ladd (X : Cx E p s m args meth c cc own nL ret) {x y : Int64} {K : Int → Option R} (hd : decode cc pc = .ok (.ladd, 1)) (hG : laddI x.toInt y.toInt K = some res) (kk : ∀ Z : Int64, K Z.toInt = some res → Ev E ad shl p l e Rm s m args below meth c cells slots Q nL h (pc + 1) L (.long Z :: S)) : Ev E ad shl p l e Rm s m args below meth c cells slots Q nL h pc L (.long y :: .long x :: S) :=
  fun H locs ls hc hs hl => lv_ladd X.1 X.2.1 hd (kk (x + y) (by rw [tL_add]; exact hG) H locs ls hc hs hl)
theorem r_lsub (X : Cx E p s m args meth c cc own nL ret) {x y : Int64} {K : Int → Option R} (hd : decode cc pc = .ok (.lsub, 1)) (hG : lsubI x.toInt y.toInt K = some res) (kk : ∀ Z : Int64, K Z.toInt = some res → Ev E ad shl p l e Rm s m args below meth c cells slots Q nL h (pc + 1) L (.long Z :: S)) : Ev E ad shl p l e Rm s m args below meth c cells slots Q nL h pc L (.long y :: .long x :: S) :=
  fun H locs ls hc hs hl => lv_lsub X.1 X.2.1 hd (kk (x - y) (by rw [tL_sub]; exact hG) H locs ls hc hs hl)
theorem r_lmul (X : Cx E p s m args meth c cc own nL ret) {x y : Int64} {K : Int → Option R} (hd : decode cc pc = .ok (.lmul, 1)) (hG : lmulI x.toInt y.toInt K = some res) (kk : ∀ Z : Int64, K Z.toInt = some res → Ev E ad shl p l e Rm s m args below meth c cells slots Q nL h (pc + 1) L (.long Z :: S)) : Ev E ad shl p l e Rm s m args below meth c cells slots Q nL h pc L (.long y :: .long x :: S) :=
  fun H locs ls hc hs hl => lv_lmul X.1 X.2.1 hd (kk (x * y) (by rw [tL_mul]; exact hG) H locs ls hc hs hl)
theorem r_ldiv (X : Cx E p s m args meth c cc own nL ret) {x y : Int64} {K : Int → Option R} (hd : decode cc pc = .ok (.ldiv, 1)) (hG : ldivI x.toInt y.toInt K = some res) (kk : ∀ Z : Int64, K Z.toInt = some res → Ev E ad shl p l e Rm s m args below meth c cells slots Q nL h (pc + 1) L (.long Z :: S)) : Ev E ad shl p l e Rm s m args below meth c cells slots Q nL h pc L (.long y :: .long x :: S) := by
  intro H locs ls hc hs hl
  unfold ldivI at hG
  split at hG
  next => cases hG
  next hne => exact lv_ldiv X.1 X.2.1 hd (fun q => hne (by rw [q]; rfl)) (kk (x / y) (by rw [tL_div]; exact hG) H locs ls hc hs hl)
theorem r_lrem (X : Cx E p s m args meth c cc own nL ret) {x y : Int64} {K : Int → Option R} (hd : decode cc pc = .ok (.lrem, 1)) (hG : lremI x.toInt y.toInt K = some res) (kk : ∀ Z : Int64, K Z.toInt = some res → Ev E ad shl p l e Rm s m args below meth c cells slots Q nL h (pc + 1) L (.long Z :: S)) : Ev E ad shl p l e Rm s m args below meth c cells slots Q nL h pc L (.long y :: .long x :: S) := by
  intro H locs ls hc hs hl
  unfold lremI at hG
  split at hG
  next => cases hG
  next hne => exact lv_lrem X.1 X.2.1 hd (fun q => hne (by rw [q]; rfl)) (kk (x - x / y * y) (by rw [tL_rem]; exact hG) H locs ls hc hs hl)
-- branches
theorem r_icmp_eq (X : Cx E p s m args meth c cc own nL ret) {x y : Int32} {off : Int} {tgt : Nat} {A B : Option R} (hd : decode cc pc = .ok (.if_icmp .eq off, 3)) (ht : (pc : Int) + off = (tgt : Int)) (hG : (if x.toInt = y.toInt then A else B) = some res) (kt : A = some res → Ev E ad shl p l e Rm s m args below meth c cells slots Q nL h tgt L S) (kf : B = some res → Ev E ad shl p l e Rm s m args below meth c cells slots Q nL h (pc + 3) L S) : Ev E ad shl p l e Rm s m args below meth c cells slots Q nL h pc L (.int y :: .int x :: S) := by
  intro H locs ls hc hs hl
  refine lv_icmp_eq X.1 X.2.1 hd ht (fun c => kt ?_ H locs ls hc hs hl) (fun c => kf ?_ H locs ls hc hs hl)
  · rw [if_pos ((tI_eq x y).mp c)] at hG; exact hG
  · rw [if_neg (fun q => c ((tI_eq x y).mpr q))] at hG; exact hG
theorem r_if_eq (X : Cx E p s m args meth c cc own nL ret) {x : Int32} {off : Int} {tgt : Nat} {A B : Option R} (hd : decode cc pc = .ok (.ifCond .eq off, 3)) (ht : (pc : Int) + off = (tgt : Int)) (hG : (if x.toInt = 0 then A else B) = some res) (kt : A = some res → Ev E ad shl p l e Rm s m args below meth c cells slots Q nL h tgt L S) (kf : B = some res → Ev E ad shl p l e Rm s m args below meth c cells slots Q nL h (pc + 3) L S) : Ev E ad shl p l e Rm s m args below meth c cells slots Q nL h pc L (.int x :: S) := by
  intro H locs ls hc hs hl
  refine lv_if_eq X.1 X.2.1 hd ht (fun c => kt ?_ H locs ls hc hs hl) (fun c => kf ?_ H locs ls hc hs hl)
  · rw [if_pos ((tI_eq0 x).mp c)] at hG; exact hG
  · rw [if_neg (fun q => c ((tI_eq0 x).mpr q))] at hG; exact hG
theorem r_icmp_ne (X : Cx E p s m args meth c cc own nL ret) {x y : Int32} {off : Int} {tgt : Nat} {A B : Option R} (hd : decode cc pc = .ok (.if_icmp .ne off, 3)) (ht : (pc : Int) + off = (tgt : Int)) (hG : (if x.toInt = y.toInt then A else B) = some res) (kt : B = some res → Ev E ad shl p l e Rm s m args below meth c cells slots Q nL h tgt L S) (kf : A = some res → Ev E ad shl p l e Rm s m args below meth c cells slots Q nL h (pc + 3) L S) : Ev E ad shl p l e Rm s m args below meth c cells slots Q nL h pc L (.int y :: .int x :: S) := by
  intro H locs ls hc hs hl
  refine lv_icmp_ne X.1 X.2.1 hd ht (fun c => kt ?_ H locs ls hc hs hl) (fun c => kf ?_ H locs ls hc hs hl)
  · rw [if_neg (fun q => c ((tI_eq x y).mpr q))] at hG; exact hG
  · rw [if_pos ((tI_eq x y).mp c)] at hG; exact hG
theorem r_if_ne (X : Cx E p s m args meth c cc own nL ret) {x : Int32} {off : Int} {tgt : Nat} {A B : Option R} (hd : decode cc pc = .ok (.ifCond .ne off, 3)) (ht : (pc : Int) + off = (tgt : Int)) (hG : (if x.toInt = 0 then A else B) = some res) (kt : B = some res → Ev E ad shl p l e Rm s m args below meth c cells slots Q nL h tgt L S) (kf : A = some res → Ev E ad shl p l e Rm s m args below meth c cells slots Q nL h (pc + 3) L S) : Ev E ad shl p l e Rm s m args below meth c cells slots Q nL h pc L (.int x :: S) := by
  intro H locs ls hc hs hl
  refine lv_if_ne X.1 X.2.1 hd ht (fun c => kt ?_ H locs ls hc hs hl) (fun c => kf ?_ H locs ls hc hs hl)
  · rw [if_neg (fun q => c ((tI_eq0 x).mpr q))] at hG; exact hG
  · rw [if_pos ((tI_eq0 x).mp c)] at hG; exact hG
theorem r_icmp_lt (X : Cx E p s m args meth c cc own nL ret) {x y : Int32} {off : Int} {tgt : Nat} {A B : Option R} (hd : decode cc pc = .ok (.if_icmp .lt off, 3)) (ht : (pc : Int) + off = (tgt : Int)) (hG : (if x.toInt < y.toInt then A else B) = some res) (kt : A = some res → Ev E ad shl p l e Rm s m args below meth c cells slots Q nL h tgt L S) (kf : B = some res → Ev E ad shl p l e Rm s m args below meth c cells slots Q nL h (pc + 3) L S) : Ev E ad shl p l e Rm s m args below meth c cells slots Q nL h pc L (.int y :: .int x :: S) := by
  intro H locs ls hc hs hl
  refine lv_icmp_lt X.1 X.2.1 hd ht (fun c => kt ?_ H locs ls hc hs hl) (fun c => kf ?_ H locs ls hc hs hl)
  · rw [if_pos ((tI_lt x y).mp c)] at hG; exact hG
  · rw [if_neg (fun q => c ((tI_lt x y).mpr q))] at hG; exact hG
theorem r_if_lt (X : Cx E p s m args meth c cc own nL ret) {x : Int32} {off : Int} {tgt : Nat} {A B : Option R} (hd : decode cc pc = .ok (.ifCond .lt off, 3)) (ht : (pc : Int) + off = (tgt : Int)) (hG : (if x.toInt < 0 then A else B) = some res) (kt : A = some res → Ev E ad shl p l e Rm s m args below meth c cells slots Q nL h tgt L S) (kf : B = some res → Ev E ad shl p l e Rm s m args below meth c cells slots Q nL h (pc + 3) L S) : Ev E ad shl p l e Rm s m args below meth c cells slots Q nL h pc L (.int x :: S) := by
  intro H locs ls hc hs hl
  refine lv_if_lt X.1 X.2.1 hd ht (fun c => kt ?_ H locs ls hc hs hl) (fun c => kf ?_ H locs ls hc hs hl)
  · rw [if_pos ((tI_lt0 x).mp c)] at hG; exact hG
  · rw [if_neg (fun q => c ((tI_lt0 x).mpr q))] at hG; exact hG
theorem r_icmp_ge (X : Cx E p s m args meth c cc own nL ret) {x y : Int32} {off : Int} {tgt : Nat} {A B : Option R} (hd : decode cc pc = .ok (.if_icmp .ge off, 3)) (ht : (pc : Int) + off = (tgt : Int)) (hG : (if y.toInt ≤ x.toInt then A else B) = some res) (kt : A = some res → Ev E ad shl p l e Rm s m args below meth c cells slots Q nL h tgt L S) (kf : B = some res → Ev E ad shl p l e Rm s m args below meth c cells slots Q nL h (pc + 3) L S) : Ev E ad shl p l e Rm s m args below meth c cells slots Q nL h pc L (.int y :: .int x :: S) := by
  intro H locs ls hc hs hl
  refine lv_icmp_ge X.1 X.2.1 hd ht (fun c => kt ?_ H locs ls hc hs hl) (fun c => kf ?_ H locs ls hc hs hl)
  · rw [if_pos ((tI_le y x).mp c)] at hG; exact hG
  · rw [if_neg (fun q => c ((tI_le y x).mpr q))] at hG; exact hG
theorem r_if_ge (X : Cx E p s m args meth c cc own nL ret) {x : Int32} {off : Int} {tgt : Nat} {A B : Option R} (hd : decode cc pc = .ok (.ifCond .ge off, 3)) (ht : (pc : Int) + off = (tgt : Int)) (hG : (if 0 ≤ x.toInt then A else B) = some res) (kt : A = some res → Ev E ad shl p l e Rm s m args below meth c cells slots Q nL h tgt L S) (kf : B = some res → Ev E ad shl p l e Rm s m args below meth c cells slots Q nL h (pc + 3) L S) : Ev E ad shl p l e Rm s m args below meth c cells slots Q nL h pc L (.int x :: S) := by
  intro H locs ls hc hs hl
  refine lv_if_ge X.1 X.2.1 hd ht (fun c => kt ?_ H locs ls hc hs hl) (fun c => kf ?_ H locs ls hc hs hl)
  · rw [if_pos ((tI_0le x).mp c)] at hG; exact hG
  · rw [if_neg (fun q => c ((tI_0le x).mpr q))] at hG; exact hG
theorem r_icmp_gt (X : Cx E p s m args meth c cc own nL ret) {x y : Int32} {off : Int} {tgt : Nat} {A B : Option R} (hd : decode cc pc = .ok (.if_icmp .gt off, 3)) (ht : (pc : Int) + off = (tgt : Int)) (hG : (if y.toInt < x.toInt then A else B) = some res) (kt : A = some res → Ev E ad shl p l e Rm s m args below meth c cells slots Q nL h tgt L S) (kf : B = some res → Ev E ad shl p l e Rm s m args below meth c cells slots Q nL h (pc + 3) L S) : Ev E ad shl p l e Rm s m args below meth c cells slots Q nL h pc L (.int y :: .int x :: S) := by
  intro H locs ls hc hs hl
  refine lv_icmp_gt X.1 X.2.1 hd ht (fun c => kt ?_ H locs ls hc hs hl) (fun c => kf ?_ H locs ls hc hs hl)
  · rw [if_pos ((tI_lt y x).mp c)] at hG; exact hG
  · rw [if_neg (fun q => c ((tI_lt y x).mpr q))] at hG; exact hG
theorem r_if_gt (X : Cx E p s m args meth c cc own nL ret) {x : Int32} {off : Int} {tgt : Nat} {A B : Option R} (hd : decode cc pc = .ok (.ifCond .gt off, 3)) (ht : (pc : Int) + off = (tgt : Int)) (hG : (if 0 < x.toInt then A else B) = some res) (kt : A = some res → Ev E ad shl p l e Rm s m args below meth c cells slots Q nL h tgt L S) (kf : B = some res → Ev E ad shl p l e Rm s m args below meth c cells slots Q nL h (pc + 3) L S) : Ev E ad shl p l e Rm s m args below meth c cells slots Q nL h pc L (.int x :: S) := by
  intro H locs ls hc hs hl
  refine lv_if_gt X.1 X.2.1 hd ht (fun c => kt ?_ H locs ls hc hs hl) (fun c => kf ?_ H locs ls hc hs hl)
  · rw [if_pos ((tI_0lt x).mp c)] at hG; exact hG
  · rw [if_neg (fun q => c ((tI_0lt x).mpr q))] at hG; exact hG
theorem r_icmp_le (X : Cx E p s m args meth c cc own nL ret) {x y : Int32} {off : Int} {tgt : Nat} {A B : Option R} (hd : decode cc pc = .ok (.if_icmp .le off, 3)) (ht : (pc : Int) + off = (tgt : Int)) (hG : (if x.toInt ≤ y.toInt then A else B) = some res) (kt : A = some res → Ev E ad shl p l e Rm s m args below meth c cells slots Q nL h tgt L S) (kf : B = some res → Ev E ad shl p l e Rm s m args below meth c cells slots Q nL h (pc + 3) L S) : Ev E ad shl p l e Rm s m args below meth c cells slots Q nL h pc L (.int y :: .int x :: S) := by
  intro H locs ls hc hs hl
  refine lv_icmp_le X.1 X.2.1 hd ht (fun c => kt ?_ H locs ls hc hs hl) (fun c => kf ?_ H locs ls hc hs hl)
  · rw [if_pos ((tI_le x y).mp c)] at hG; exact hG
  · rw [if_neg (fun q => c ((tI_le x y).mpr q))] at hG; exact hG
theorem r_if_le (X : Cx E p s m args meth c cc own nL ret) {x : Int32} {off : Int} {tgt : Nat} {A B : Option R} (hd : decode cc pc = .ok (.ifCond .le off, 3)) (ht : (pc : Int) + off = (tgt : Int)) (hG : (if x.toInt ≤ 0 then A else B) = some res) (kt : A = some res → Ev E ad shl p l e Rm s m args below meth c cells slots Q nL h tgt L S) (kf : B = some res → Ev E ad shl p l e Rm s m args below meth c cells slots Q nL h (pc + 3) L S) : Ev E ad shl p l e Rm s m args below meth c cells slots Q nL h pc L (.int x :: S) := by
  intro H locs ls hc hs hl
  refine lv_if_le X.1 X.2.1 hd ht (fun c => kt ?_ H locs ls hc hs hl) (fun c => kf ?_ H locs ls hc hs hl)
  · rw [if_pos ((tI_le0 x).mp c)] at hG; exact hG
  · rw [if_neg (fun q => c ((tI_le0 x).mpr q))] at hG; exact hG
theorem r_goto (X : Cx E p s m args meth c cc own nL ret) {off : Int} {tgt : Nat} (hd : decode cc pc = .ok (.goto off, 3)) (ht : (pc : Int) + off = (tgt : Int)) (kk : Ev E ad shl p l e Rm s m args below meth c cells slots Q nL h tgt L S) : Ev E ad shl p l e Rm s m args below meth c cells slots Q nL h pc L S :=
  fun H locs ls hc hs hl => lv_goto X.1 X.2.1 hd ht (kk H locs ls hc hs hl)
theorem r_ifnull (X : Cx E p s m args meth c cc own nL ret) {q off : Int} {tgt : Nat} {A B : Option R} (hd : decode cc pc = .ok (.ifnull off, 3)) (ht : (pc : Int) + off = (tgt : Int)) (hG : (if q < 0 then A else B) = some res) (kt : A = some res → Ev E ad shl p l e Rm s m args below meth c cells slots Q nL h tgt L S) (kf : 0 ≤ q → B = some res → Ev E ad shl p l e Rm s m args below meth c cells slots Q nL h (pc + 3) L S) : Ev E ad shl p l e Rm s m args below meth c cells slots Q nL h pc L (npv ad q :: S) := by
  intro H locs ls hc hs hl
  by_cases hq : q < 0
  · rw [if_pos hq] at hG
    simp only [npv, hq, if_true]
    exact lv_ifnullN X.1 X.2.1 hd ht (kt hG H locs ls hc hs hl)
  · rw [if_neg hq] at hG
    simp only [npv, hq, if_false]
    exact lv_ifnull X.1 X.2.1 hd (kf (by omega) hG H locs ls hc hs hl)
theorem r_ite {c : Prop} {A B : Option R} {G : Prop} {i : Decidable c} (hG : @ite _ c i A B = some res) (kt : c → A = some res → G) (kf : ¬ c → B = some res → G) : G := by
  by_cases q : c
  · rw [if_pos q] at hG; exact kt q hG
  · rw [if_neg q] at hG; exact kf q hG
theorem r_tsIn (X : Cx E p s m args meth c cc own nL ret) {dflt lo hi k : Int} {offs : Array Int} {len : Nat} {x : Int32} {off : Int} {tgt : Nat} (hd : decode cc pc = .ok (.tableswitch dflt lo hi offs, len)) (q : x.toInt = k) (h1 : ¬ k < lo) (h2 : ¬ hi < k) (ho : offs[(k - lo).toNat]? = some off) (ht : (pc : Int) + off = (tgt : Int)) (kk : Ev E ad shl p l e Rm s m args below meth c cells slots Q nL h tgt L S) : Ev E ad shl p l e Rm s m args below meth c cells slots Q nL h pc L (.int x :: S) :=
  fun H locs ls hc hs hl => lv_tableIn X.1 X.2.1 hd (by rw [q]; exact h1) (by rw [q]; exact h2) (by rw [q]; exact ho) ht (kk H locs ls hc hs hl)
theorem r_tsOut (X : Cx E p s m args meth c cc own nL ret) {dflt lo hi : Int} {offs : Array Int} {len : Nat} {x : Int32} {tgt : Nat} (hd : decode cc pc = .ok (.tableswitch dflt lo hi offs, len)) (q : x.toInt < lo ∨ hi < x.toInt) (ht : (pc : Int) + dflt = (tgt : Int)) (kk : Ev E ad shl p l e Rm s m args below meth c cells slots Q nL h tgt L S) : Ev E ad shl p l e Rm s m args below meth c cells slots Q nL h pc L (.int x :: S) :=
  fun H locs ls hc hs hl => lv_tableOut X.1 X.2.1 hd q ht (kk H locs ls hc hs hl)
theorem r_lsIn (X : Cx E p s m args meth c cc own nL ret) {dflt k : Int} {ps : Array (Int × Int)} {len : Nat} {x : Int32} {off : Int} {tgt : Nat} (hd : decode cc pc = .ok (.lookupswitch dflt ps, len)) (q : x.toInt = k) (hp : (ps.toList.zip (ps.toList.drop 1)).all (fun (a, next) => a.1 < next.1) = true) (ho : Op.lookupswitch.offset ps.toList dflt k = off) (ht : (pc : Int) + off = (tgt : Int)) (kk : Ev E ad shl p l e Rm s m args below meth c cells slots Q nL h tgt L S) : Ev E ad shl p l e Rm s m args below meth c cells slots Q nL h pc L (.int x :: S) :=
  fun H locs ls hc hs hl => lv_lookup X.1 X.2.1 hd hp (by rw [q]; exact ho) ht (kk H locs ls hc hs hl)
theorem lsw {a o d z : Int} {r : List (Int × Int)} {t : Int} (q : ¬ z = a) (k : Op.lookupswitch.offset r d z = t) : Op.lookupswitch.offset ((a, o) :: r) d z = t := by
  rw [← k]
  simp only [Op.lookupswitch.offset]
  first | (rw [if_neg q]; done) | (rw [if_neg (fun e => q e.symm)]; done) | (simp; intro e; exact absurd e.symm q) | (simp; intro e; exact absurd e q)
theorem r_lsOut (X : Cx E p s m args meth c cc own nL ret) {dflt : Int} {ps : Array (Int × Int)} {len : Nat} {x : Int32} {tgt : Nat} (hd : decode cc pc = .ok (.lookupswitch dflt ps, len)) (ho : Op.lookupswitch.offset ps.toList dflt x.toInt = dflt) (hp : (ps.toList.zip (ps.toList.drop 1)).all (fun (a, next) => a.1 < next.1) = true) (ht : (pc : Int) + dflt = (tgt : Int)) (kk : Ev E ad shl p l e Rm s m args below meth c cells slots Q nL h tgt L S) : Ev E ad shl p l e Rm s m args below meth c cells slots Q nL h pc L (.int x :: S) :=
  fun H locs ls hc hs hl => lv_lookup X.1 X.2.1 hd hp ho ht (kk H locs ls hc hs hl)
-- fields
theorem npv_pos {q : Int} (h : 0 ≤ q) : npv ad q = .ref (ad q.toNat) := by
  unfold npv
  rw [if_neg (by omega)]
theorem r_getI (X : Cx E p s m args meth c cc own nL ret) {b k ci index N : Nat} {cs : List Nat} {C : String} {T : u_T} {K : Int → Option R} (hb : shl[b]? = some (.inl (ci, cs))) (hcl : vwCl[ci]? = some (C, T, N)) (hin : ∀ w ∈ u_ws C T N, w ∈ gw) (hk : k < N) (hck : cs[k]? = some 0) (hlink : Cond.fieldLink own index (T k).1 (T k).2.1 (T k).2.2.1 ∈ gw) (hd : decode cc pc = .ok (.getfield index, 3)) (hG : gF h b k K = some res)
    (kk : ∀ Z : Int32, K Z.toInt = some res → Ev E ad shl p l e Rm s m args below meth c cells slots Q nL h (pc + 3) L (.int Z :: S)) : Ev E ad shl p l e Rm s m args below meth c cells slots Q nL h pc L (.ref (ad b) :: S) := by
  intro H locs ls hc hs hl
  refine va_get X.1 X.2.1 X.2.2.2.2.1 hin X.2.2.2.1 X.2.2.2.2.2.2.2.1 hc.1 b (fs := cs.mapIdx fun k c => fv ad (h b k) c) (wl_get hb) hcl k hk (X.2.2.2.2.1 _ hlink) (fun _ h => h) (v := .int (iI (h b k))) (by rw [mapIdx_get hck]; rfl) hd ?_
  exact kk (iI (h b k)) (by rw [iI_toInt (hc.2.2 b k)]; exact hG) H locs ls hc hs hl
theorem r_getC (X : Cx E p s m args meth c cc own nL ret) {b k ci q index N : Nat} {cs : List Nat} {C : String} {T : u_T} (hb : shl[b]? = some (.inl (ci, cs))) (hcl : vwCl[ci]? = some (C, T, N)) (hin : ∀ w ∈ u_ws C T N, w ∈ gw) (hk : k < N) (hck : cs[k]? = some (q + 2)) (hlink : Cond.fieldLink own index (T k).1 (T k).2.1 (T k).2.2.1 ∈ gw) (hd : decode cc pc = .ok (.getfield index, 3))
    (kk : Ev E ad shl p l e Rm s m args below meth c cells slots Q nL h (pc + 3) L (.ref (ad q) :: S)) : Ev E ad shl p l e Rm s m args below meth c cells slots Q nL h pc L (.ref (ad b) :: S) := by
  intro H locs ls hc hs hl
  refine va_get X.1 X.2.1 X.2.2.2.2.1 hin X.2.2.2.1 X.2.2.2.2.2.2.2.1 hc.1 b (fs := cs.mapIdx fun k c => fv ad (h b k) c) (wl_get hb) hcl k hk (X.2.2.2.2.1 _ hlink) (fun _ h => h) (v := .ref (ad q)) (by rw [mapIdx_get hck]; rfl) hd ?_
  exact kk H locs ls hc hs hl
theorem r_getR (X : Cx E p s m args meth c cc own nL ret) {b k ci index N : Nat} {ql : List Nat} {cs : List Nat} {C : String} {T : u_T} {K : Nat → Option R} (hb : shl[b]? = some (.inl (ci, cs))) (hcl : vwCl[ci]? = some (C, T, N)) (hin : ∀ w ∈ u_ws C T N, w ∈ gw) (hk : k < N) (hck : cs[k]? = some 1) (hlink : Cond.fieldLink own index (T k).1 (T k).2.1 (T k).2.2.1 ∈ gw) (hd : decode cc pc = .ok (.getfield index, 3)) (hG : gR h b k ql K = some res)
    (kk : ∀ q, q ∈ ql → K q = some res → Ev E ad shl p l e Rm s m args below meth c cells slots Q nL h (pc + 3) L (.ref (ad q) :: S)) : Ev E ad shl p l e Rm s m args below meth c cells slots Q nL h pc L (.ref (ad b) :: S) := by
  intro H locs ls hc hs hl
  unfold gR at hG
  split at hG
  next hq =>
    refine va_get X.1 X.2.1 X.2.2.2.2.1 hin X.2.2.2.1 X.2.2.2.2.2.2.2.1 hc.1 b (fs := cs.mapIdx fun k c => fv ad (h b k) c) (wl_get hb) hcl k hk (X.2.2.2.2.1 _ hlink) (fun _ h => h) (v := .ref (ad (h b k).toNat)) (by rw [mapIdx_get hck]; exact congrArg some (npv_pos hq.1)) hd ?_
    exact kk _ hq.2 hG H locs ls hc hs hl
  next => cases hG
theorem fvset {b k : Nat} {cs : List Nat} {cd : Nat} {x : Int} {v : Value} (hck : cs[k]? = some cd) (hv : fv ad x cd = v) (hbk : b = b) : (cs.mapIdx fun k c => fv ad (h b k) c).set k v = cs.mapIdx fun j c => fv ad (set2 h b k x b j) c := by
  apply List.ext_getElem?
  intro i
  rw [List.getElem?_set]
  have hlen := (List.getElem?_eq_some_iff.mp hck).1
  by_cases hi : k = i
  · subst hi
    rw [if_pos rfl, if_pos (by simpa using hlen), mapIdx_get (f := set2 h b k x b) hck]
    simp only [set2, and_self, if_true, hv]
  · simp only [hi, if_false, List.getElem?_mapIdx, set2, true_and]
    congr 1
    funext c
    rw [if_neg (fun z => hi z.symm)]
theorem CW_put {sp : Shp} {b : Nat} {x : va_E} {h' : Hp} {H1 : Heap} (hb : shl[b]? = some sp) (hx : x = ent E ad (h' b) sp) (ho : ∀ p, p ≠ b → h' p = h p) (hR : ∀ p k, inR (h' p k)) (hP : va_P E.2.1 vwCl ((wl_ E ad h shl).set b (ad b, x)) H1) (hD : va_D (bsA E) ((wl_ E ad h shl).set b (ad b, x))) : CW E ad shl h' H1 := by
  rw [wl_set hb hx ho] at hP hD
  exact ⟨hP, hD, hR⟩
theorem set2_inR {b k : Nat} {x : Int} (hR : ∀ p k, inR (h p k)) (hx : inR x) : ∀ p j, inR (set2 h b k x p j) := by
  intro p j
  unfold set2
  split
  · exact hx
  · exact hR p j
theorem set2_ne {b k : Nat} {x : Int} : ∀ p, p ≠ b → set2 h b k x p = h p := by
  intro p hp
  funext j
  simp [set2, hp]
theorem nm_of {ci : Nat} {C : String} {T : u_T} {N : Nat} (hcl : vwCl[ci]? = some (C, T, N)) : (∀ a, a < N → ∀ b, b < N → a ≠ b → (T a).2.1 ≠ (T b).2.1) ∧ ∃ ty : Nat → FieldType, ∀ k, k < N → parseFieldDescriptor (T k).2.2.1 = some (ty k) := by
  match ci, hcl with
  | 0, hcl => cases hcl; exact ⟨nmX0, tyX0, tyX0_ok⟩
  | 1, hcl => cases hcl; exact ⟨nmX1, tyX1, tyX1_ok⟩
  | 2, hcl => cases hcl; exact ⟨nmX2, tyX2, tyX2_ok⟩
  | 3, hcl => cases hcl; exact ⟨nmX3, tyX3, tyX3_ok⟩
  | 4, hcl => cases hcl; exact ⟨nmX4, tyX4, tyX4_ok⟩
  | 5, hcl => cases hcl; exact ⟨nmX5, tyX5, tyX5_ok⟩
  | 6, hcl => cases hcl; exact ⟨nmX6, tyX6, tyX6_ok⟩
  | 7, hcl => cases hcl; exact ⟨nmX7, tyX7, tyX7_ok⟩
  | 8, hcl => cases hcl; exact ⟨nmX8, tyX8, tyX8_ok⟩
  | 9, hcl => cases hcl; exact ⟨nmX9, tyX9, tyX9_ok⟩
  | ci + 10, hcl => simp [vwCl] at hcl
theorem r_putI (X : Cx E p s m args meth c cc own nL ret) {b k ci index N : Nat} {x : Int32} {cs : List Nat} {C : String} {T : u_T} {K : Hp → Option R} (hb : shl[b]? = some (.inl (ci, cs))) (hcl : vwCl[ci]? = some (C, T, N)) (hin : ∀ w ∈ u_ws C T N, w ∈ gw) (hk : k < N) (hck : cs[k]? = some 0) (hfin : (T k).2.2.2 = false) (hty : (T k).2.2.1 = "I") (hlink : Cond.fieldLink own index (T k).1 (T k).2.1 (T k).2.2.1 ∈ gw) (hd : decode cc pc = .ok (.putfield index, 3)) (hG : pF h b k x.toInt K = some res)
    (kk : ∀ h' : Hp, K h' = some res → Ev E ad shl p l e Rm s m args below meth c cells slots Q nL h' (pc + 3) L S) : Ev E ad shl p l e Rm s m args below meth c cells slots Q nL h pc L (.int x :: .ref (ad b) :: S) := by
  intro H locs ls hc hs hl
  obtain ⟨hnm, ty0, hty0⟩ := nm_of hcl
  refine va_put X.1 X.2.1 X.2.2.2.2.1 hin ty0 hty0 hnm X.2.2.2.1 X.2.2.2.2.2.2.2.1 hc.1 hc.2.1 hs b (fs := cs.mapIdx fun k c => fv ad (h b k) c) (wl_get hb) hcl k hk (X.2.2.2.2.1 _ hlink) (fun _ h => h) hfin (ty := .int) (v := .int x) (by rw [hty]; decide +kernel) rfl rfl (by simpa using (List.getElem?_eq_some_iff.mp hck).1) hd (fun H1 locs1 hP hD hS => ?_)
  exact kk _ hG H1 locs1 ls (CW_put hb (by simp only [ent]; rw [fvset hck (x := x.toInt) (by simp [fv, iI_of]) rfl]) set2_ne (set2_inR hc.2.2 (tI_inR x)) hP hD) hS hl
theorem zz {x : Int32} (h : x.toInt = 0 ∨ x.toInt = 1) : x = 0 ∨ x = 1 := by
  rcases h with h | h
  · exact Or.inl (Int32.toInt_inj.mp h)
  · exact Or.inr (Int32.toInt_inj.mp h)
theorem zzn {x : Int32} (h : x.toInt = 0 ∨ x.toInt = 1) : narrow .boolean (.int x) = .int x ∧ fits .boolean (.int x) = true := by
  rcases zz h with rfl | rfl <;> exact ⟨rfl, rfl⟩
theorem r_putZ (X : Cx E p s m args meth c cc own nL ret) {b k ci index N : Nat} {x : Int32} {cs : List Nat} {C : String} {T : u_T} {K : Hp → Option R} (hb : shl[b]? = some (.inl (ci, cs))) (hcl : vwCl[ci]? = some (C, T, N)) (hin : ∀ w ∈ u_ws C T N, w ∈ gw) (hk : k < N) (hck : cs[k]? = some 0) (hfin : (T k).2.2.2 = false) (hty : (T k).2.2.1 = "Z") (hlink : Cond.fieldLink own index (T k).1 (T k).2.1 (T k).2.2.1 ∈ gw) (hd : decode cc pc = .ok (.putfield index, 3)) (hG : pZ h b k x.toInt K = some res)
    (kk : ∀ h' : Hp, K h' = some res → Ev E ad shl p l e Rm s m args below meth c cells slots Q nL h' (pc + 3) L S) : Ev E ad shl p l e Rm s m args below meth c cells slots Q nL h pc L (.int x :: .ref (ad b) :: S) := by
  intro H locs ls hc hs hl
  obtain ⟨hnm, ty0, hty0⟩ := nm_of hcl
  unfold pZ at hG
  split at hG
  next hz =>
    refine va_put X.1 X.2.1 X.2.2.2.2.1 hin ty0 hty0 hnm X.2.2.2.1 X.2.2.2.2.2.2.2.1 hc.1 hc.2.1 hs b (fs := cs.mapIdx fun k c => fv ad (h b k) c) (wl_get hb) hcl k hk (X.2.2.2.2.1 _ hlink) (fun _ h => h) hfin (ty := .boolean) (v := .int x) (by rw [hty]; decide +kernel) (zzn hz).1 (zzn hz).2 (by simpa using (List.getElem?_eq_some_iff.mp hck).1) hd (fun H1 locs1 hP hD hS => ?_)
    exact kk _ hG H1 locs1 ls (CW_put hb (by simp only [ent]; rw [fvset hck (x := x.toInt) (by simp [fv, iI_of]) rfl]) set2_ne (set2_inR hc.2.2 (tI_inR x)) hP hD) hS hl
  next => cases hG
theorem r_putR (X : Cx E p s m args meth c cc own nL ret) {b k ci index N q : Nat} {cs : List Nat} {C D : String} {T : u_T} {K : Hp → Option R} (hb : shl[b]? = some (.inl (ci, cs))) (hcl : vwCl[ci]? = some (C, T, N)) (hin : ∀ w ∈ u_ws C T N, w ∈ gw) (hk : k < N) (hck : cs[k]? = some 1) (hfin : (T k).2.2.2 = false) (hty : parseFieldDescriptor (T k).2.2.1 = some (.object D)) (hlink : Cond.fieldLink own index (T k).1 (T k).2.1 (T k).2.2.1 ∈ gw) (hd : decode cc pc = .ok (.putfield index, 3)) (hq : q < 1000) (hG : pR h b k q K = some res)
    (kk : ∀ h' : Hp, K h' = some res → Ev E ad shl p l e Rm s m args below meth c cells slots Q nL h' (pc + 3) L S) : Ev E ad shl p l e Rm s m args below meth c cells slots Q nL h pc L (.ref (ad q) :: .ref (ad b) :: S) := by
  intro H locs ls hc hs hl
  obtain ⟨hnm, ty0, hty0⟩ := nm_of hcl
  refine va_put X.1 X.2.1 X.2.2.2.2.1 hin ty0 hty0 hnm X.2.2.2.1 X.2.2.2.2.2.2.2.1 hc.1 hc.2.1 hs b (fs := cs.mapIdx fun k c => fv ad (h b k) c) (wl_get hb) hcl k hk (X.2.2.2.2.1 _ hlink) (fun _ h => h) hfin (ty := .object D) (v := .ref (ad q)) hty rfl rfl (by simpa using (List.getElem?_eq_some_iff.mp hck).1) hd (fun H1 locs1 hP hD hS => ?_)
  exact kk _ hG H1 locs1 ls (CW_put hb (by simp only [ent]; rw [fvset hck (x := (q : Int)) (show fv ad (q : Int) 1 = .ref (ad q) from npv_pos (ad := ad) (q := (q : Int)) (by omega)) rfl]) set2_ne (set2_inR hc.2.2 ⟨by omega, by omega⟩) hP hD) hS hl
-- arrays
theorem toN {i : Int32} {n : Nat} (h : 0 ≤ i.toInt ∧ i.toInt < (n : Int)) : vp_in i n := vp_iff.mpr h
theorem r_iald (X : Cx E p s m args meth c cc own nL ret) {q n : Nat} {rs : List Nat} {i : Int32} {K : Int → Option R} (hq : shl[q]? = some (.inr (0, n, rs))) (hd : decode cc pc = .ok (.iaload, 1)) (hG : rdI h q n i.toInt K = some res) (kk : ∀ Z : Int32, K Z.toInt = some res → Ev E ad shl p l e Rm s m args below meth c cells slots Q nL h (pc + 1) L (.int Z :: S)) : Ev E ad shl p l e Rm s m args below meth c cells slots Q nL h pc L (.int i :: .ref (ad q) :: S) := by
  intro H locs ls hc hs hl
  unfold rdI at hG
  split at hG
  next hi =>
    refine va_iald X.1 X.2.1 X.2.2.2.2.2.2.2.1 hc.1 q 0 (wl_get hq) rfl (toN hi) hd ?_
    exact kk _ (by rw [toNatClamp, iI_toInt (hc.2.2 _ _)]; exact hG) H locs ls hc hs hl
  next => cases hG
theorem r_bald (X : Cx E p s m args meth c cc own nL ret) {q n : Nat} {rs : List Nat} {i : Int32} {K : Int → Option R} (hq : shl[q]? = some (.inr (1, n, rs))) (hd : decode cc pc = .ok (.baload, 1)) (hG : rdI h q n i.toInt K = some res) (kk : ∀ Z : Int32, K Z.toInt = some res → Ev E ad shl p l e Rm s m args below meth c cells slots Q nL h (pc + 1) L (.int Z :: S)) : Ev E ad shl p l e Rm s m args below meth c cells slots Q nL h pc L (.int i :: .ref (ad q) :: S) := by
  intro H locs ls hc hs hl
  unfold rdI at hG
  split at hG
  next hi =>
    refine va_bald X.1 X.2.1 X.2.2.2.2.2.2.2.1 hc.1 q 1 (wl_get hq) rfl (toN hi) hd ?_
    exact kk _ (by rw [toNatClamp, iI_toInt (hc.2.2 _ _)]; exact hG) H locs ls hc hs hl
  next => cases hG
theorem r_zald (X : Cx E p s m args meth c cc own nL ret) {q n : Nat} {rs : List Nat} {i : Int32} {K : Int → Option R} (hq : shl[q]? = some (.inr (2, n, rs))) (hd : decode cc pc = .ok (.baload, 1)) (hG : rdI h q n i.toInt K = some res) (kk : ∀ Z : Int32, K Z.toInt = some res → Ev E ad shl p l e Rm s m args below meth c cells slots Q nL h (pc + 1) L (.int Z :: S)) : Ev E ad shl p l e Rm s m args below meth c cells slots Q nL h pc L (.int i :: .ref (ad q) :: S) := by
  intro H locs ls hc hs hl
  unfold rdI at hG
  split at hG
  next hi =>
    refine va_zald X.1 X.2.1 X.2.2.2.2.2.2.2.1 hc.1 q 2 (wl_get hq) rfl (toN hi) hd ?_
    exact kk _ (by rw [toNatClamp, iI_toInt (hc.2.2 _ _)]; exact hG) H locs ls hc hs hl
  next => cases hG
theorem arrset {q n ty : Nat} {rs : List Nat} {i : Nat} {x : Int} {y : Int32} (hty : ty < 3) (hy : iI x = y) : (.inl (E.2.2.1 ty, n, .inl (upd (fun j => iI (h q j)) i y)) : va_E) = ent E ad (set2 h q i x q) (.inr (ty, n, rs)) := by
  simp only [ent, hty, if_true]
  congr 4
  funext j
  simp only [upd, set2, true_and]
  split
  · rw [hy]
  · rfl
theorem r_iast (X : Cx E p s m args meth c cc own nL ret) {q n : Nat} {rs : List Nat} {i x : Int32} {K : Hp → Option R} (hq : shl[q]? = some (.inr (0, n, rs))) (hd : decode cc pc = .ok (.iastore, 1)) (hG : wrI h q n i.toInt x.toInt K = some res) (kk : ∀ h' : Hp, K h' = some res → Ev E ad shl p l e Rm s m args below meth c cells slots Q nL h' (pc + 1) L S) : Ev E ad shl p l e Rm s m args below meth c cells slots Q nL h pc L (.int x :: .int i :: .ref (ad q) :: S) := by
  intro H locs ls hc hs hl
  unfold wrI at hG
  split at hG
  next hi =>
    refine va_iast X.1 X.2.1 X.2.2.2.2.2.2.2.1 hc.1 hc.2.1 hs q 0 (wl_get hq) rfl (toN hi) hd (fun H1 locs1 hP hD hS => ?_)
    exact kk _ hG H1 locs1 ls (CW_put hq (arrset (x := x.toInt) (by decide) (iI_of x)) set2_ne (set2_inR hc.2.2 (tI_inR x)) hP hD) hS hl
  next => cases hG
theorem r_bast (X : Cx E p s m args meth c cc own nL ret) {q n : Nat} {rs : List Nat} {i x : Int32} {K : Hp → Option R} (hq : shl[q]? = some (.inr (1, n, rs))) (hd : decode cc pc = .ok (.bastore, 1)) (hG : wrB h q n i.toInt x.toInt K = some res) (kk : ∀ h' : Hp, K h' = some res → Ev E ad shl p l e Rm s m args below meth c cells slots Q nL h' (pc + 1) L S) : Ev E ad shl p l e Rm s m args below meth c cells slots Q nL h pc L (.int x :: .int i :: .ref (ad q) :: S) := by
  intro H locs ls hc hs hl
  unfold wrB at hG
  split at hG
  next hi =>
    refine va_bast X.1 X.2.1 X.2.2.2.2.2.2.2.1 hc.1 hc.2.1 hs q 1 (wl_get hq) rfl (toN hi) hd (fun H1 locs1 hP hD hS => ?_)
    exact kk _ hG H1 locs1 ls (CW_put hq (arrset (x := (nb x.toInt)) (by decide) (by rw [vp_nar_byte]; unfold nb; rw [iI_of, iI_of])) set2_ne (set2_inR hc.2.2 (tI_inR _)) hP hD) hS hl
  next => cases hG
theorem r_zast (X : Cx E p s m args meth c cc own nL ret) {q n : Nat} {rs : List Nat} {i x : Int32} {K : Hp → Option R} (hq : shl[q]? = some (.inr (2, n, rs))) (hd : decode cc pc = .ok (.bastore, 1)) (hG : wrZ h q n i.toInt x.toInt K = some res) (kk : ∀ h' : Hp, K h' = some res → Ev E ad shl p l e Rm s m args below meth c cells slots Q nL h' (pc + 1) L S) : Ev E ad shl p l e Rm s m args below meth c cells slots Q nL h pc L (.int x :: .int i :: .ref (ad q) :: S) := by
  intro H locs ls hc hs hl
  unfold wrZ at hG
  split at hG
  next hi =>
    refine va_zast X.1 X.2.1 X.2.2.2.2.2.2.2.1 hc.1 hc.2.1 hs q 2 (wl_get hq) rfl (toN hi.1) hd (fun H1 locs1 hP hD hS => ?_)
    exact kk _ hG H1 locs1 ls (CW_put hq (arrset (x := x.toInt) (by decide) (by rw [iI_of]; rcases zz hi.2 with rfl | rfl <;> rfl)) set2_ne (set2_inR hc.2.2 (tI_inR x)) hP hD) hS hl
  next => cases hG
theorem r_tab (X : Cx E p s m args meth c cc own nL ret) {k : Nat} {q : String × String × List Int} {i : Int32} {K : Int → Option R} (hq : tabL[k]? = some q) (hr : ∀ j, j < q.2.2.length → inR (q.2.2.getD j 0)) (hd : decode cc pc = .ok (.iaload, 1)) (hG : rdT q.2.2 i.toInt K = some res) (kk : ∀ Z : Int32, K Z.toInt = some res → Ev E ad shl p l e Rm s m args below meth c cells slots Q nL h (pc + 1) L (.int Z :: S)) : Ev E ad shl p l e Rm s m args below meth c cells slots Q nL h pc L (.int i :: .ref (E.2.2.2.1 k) :: S) := by
  intro H locs ls hc hs hl
  unfold rdT at hG
  split at hG
  next hi =>
    refine va_ti X.1 X.2.1 (X.2.2.2.2.2.2.2.2.1 k q hq).2 hs (toN hi) rfl hd ?_
    refine kk _ ?_ H locs ls hc hs hl
    rw [toNatClamp, iI_toInt (hr _ (by omega))]
    exact hG
  next => cases hG
theorem r_gets (X : Cx E p s m args meth c cc own nL ret) {k index : Nat} {q : String × String × List Int} (hq : tabL[k]? = some q) (hlink : Cond.fieldLink own index q.1 q.2.1 "[I" ∈ gw) (hd : decode cc pc = .ok (.getstatic index, 3)) (kk : Ev E ad shl p l e Rm s m args below meth c cells slots Q nL h (pc + 3) L (.ref (E.2.2.2.1 k) :: S)) : Ev E ad shl p l e Rm s m args below meth c cells slots Q nL h pc L S :=
  fun H locs ls hc hs hl => va_gets X.1 X.2.1 (X.2.2.2.2.2.2.2.2.1 k q hq).1 hs X.2.2.2.1 (X.2.2.2.2.1 _ hlink) (fun _ h => h) hd (kk H locs ls hc hs hl)
theorem r_ldcS (X : Cx E p s m args meth c cc own nL ret) {k : Nat} {q : String × Nat × String} (hq : strL[k]? = some q) (hown : q.1 = own) {idx : Nat} (hidx : q.2.1 = idx) (hd : decode cc pc = .ok (.ldc idx, 2)) (kk : Ev E ad shl p l e Rm s m args below meth c cells slots Q nL h (pc + 2) L (.ref (E.2.2.2.2.1 k) :: S)) : Ev E ad shl p l e Rm s m args below meth c cells slots Q nL h pc L S := by
  subst hown hidx
  exact fun H locs ls hc hs hl => va_ldcS X.1 X.2.1 X.2.2.2.1 (X.2.2.2.2.2.2.2.2.2.1 k q hq).1 hd (kk H locs ls hc hs hl)
theorem r_alen (X : Cx E p s m args meth c cc own nL ret) {q ty n : Nat} {rs : List Nat} {z : Int} {K : Int → Option R} (hq : shl[q]? = some (.inr (ty, n, rs))) (hty : ty < 3) (hd : decode cc pc = .ok (.arraylength, 1)) (hz : (Int32.ofNat n).toInt = z) (hG : cI z K = some res) (kk : ∀ Z : Int32, K Z.toInt = some res → Ev E ad shl p l e Rm s m args below meth c cells slots Q nL h (pc + 1) L (.int Z :: S)) : Ev E ad shl p l e Rm s m args below meth c cells slots Q nL h pc L (.ref (ad q) :: S) := by
  intro H locs ls hc hs hl
  have ht : (tysE E)[ty]? = some (E.2.2.1 ty, match ty with | 0 => .int | 1 => .byte | _ => .boolean) := by
    rcases (by omega : ty = 0 ∨ ty = 1 ∨ ty = 2) with rfl | rfl | rfl <;> rfl
  have hw : (wl_ E ad h shl)[q]? = some (ad q, .inl (E.2.2.1 ty, n, .inl fun j => iI (h q j))) := by rw [wl_get hq]; simp [ent, hty]
  exact va_alen X.1 X.2.1 X.2.2.2.2.2.2.2.1 hc.1 q ty hw ht (v := Int32.ofNat n) rfl hd (kk _ (by rw [hz]; exact hG) H locs ls hc hs hl)
theorem r_aald (X : Cx E p s m args meth c cc own nL ret) {q ty n base stride : Nat} {rs : List Nat} {C : String} {i : Int32} {K : Nat → Option R} (hq : shl[q]? = some (.inr (ty, n, rs))) (hty : 3 ≤ ty) (ht : (tysE E)[ty]? = some (E.2.2.1 ty, .object C)) (hrs : ∀ j, j < n → rs.getD j 0 = base + stride * j + 1) (hd : decode cc pc = .ok (.aaload, 1)) (hG : rdQ n base stride i.toInt K = some res)
    (kk : ∀ j, j < n → K (base + stride * j) = some res → Ev E ad shl p l e Rm s m args below meth c cells slots Q nL h (pc + 1) L (.ref (ad (base + stride * j)) :: S)) : Ev E ad shl p l e Rm s m args below meth c cells slots Q nL h pc L (.int i :: .ref (ad q) :: S) := by
  intro H locs ls hc hs hl
  unfold rdQ at hG
  split at hG
  next hi =>
    have hw : (wl_ E ad h shl)[q]? = some (ad q, .inl (E.2.2.1 ty, n, .inr (.inr (.inr (.inr (rqv ad rs)))))) := by rw [wl_get hq]; simp [ent, show ¬ ty < 3 by omega]
    refine va_aldq X.1 X.2.1 X.2.2.2.2.2.2.2.1 hc.1 q ty hw ht (toN hi) hd ?_
    have e : va_rf (rqv ad rs i.toNatClampNeg) = .ref (ad (base + stride * i.toInt.toNat)) := by
      rw [toNatClamp]
      simp only [rqv]
      rw [hrs _ (by omega)]
      simp [va_rf]
    rw [e]
    exact kk _ (by omega) hG H locs ls hc hs hl
  next => cases hG
-- Math
theorem r_mmax (X : Cx E p s m args meth c cc own nL ret) {idx : Nat} {x y : Int32} {K : Int → Option R} (hd : decode cc pc = .ok (.invokestatic idx, 3)) (w : Cond.methodLink own idx Lib.Math.max.name ∈ gw) (hf : 1 ≤ Rm.frames) (hlo : (S.map fun v => v.category).sum + 13 ≤ Rm.locals) (hce : cells ≤ Rm.cells) (hsl : slots ≤ Rm.slots) (hG : maxI x.toInt y.toInt K = some res) (kk : ∀ Z : Int32, K Z.toInt = some res → Ev E ad shl p l e Rm s m args below meth c cells slots Q nL h (pc + 3) L (.int Z :: S)) : Ev E ad shl p l e Rm s m args below meth c cells slots Q nL h pc L (.int y :: .int x :: S) := by
  intro H locs ls hc hs hl
  refine va_mmax X.1 X.2.1 (X.2.2.1.trans hl.1.symm) X.2.2.2.1 (X.2.2.2.2.1 _ w) (X.2.2.2.2.1 _ mS_LibMathmax) (X.2.2.2.2.1 _ mN_J9) (X.2.2.2.2.1 _ mK_LibMathmax) hf hlo hce hsl hd (kk _ ?_ H locs ls hc hs hl)
  have e : (if x < y then y else x).toInt = if x.toInt < y.toInt then y.toInt else x.toInt := by
    by_cases q : x < y
    · rw [if_pos q, if_pos ((tI_lt x y).mp q)]
    · rw [if_neg q, if_neg (fun z => q ((tI_lt x y).mpr z))]
  rw [e]; exact hG
theorem r_mmin (X : Cx E p s m args meth c cc own nL ret) {idx : Nat} {x y : Int32} {K : Int → Option R} (hd : decode cc pc = .ok (.invokestatic idx, 3)) (w : Cond.methodLink own idx Lib.Math.min.name ∈ gw) (hf : 1 ≤ Rm.frames) (hlo : (S.map fun v => v.category).sum + 13 ≤ Rm.locals) (hce : cells ≤ Rm.cells) (hsl : slots ≤ Rm.slots) (hG : minI x.toInt y.toInt K = some res) (kk : ∀ Z : Int32, K Z.toInt = some res → Ev E ad shl p l e Rm s m args below meth c cells slots Q nL h (pc + 3) L (.int Z :: S)) : Ev E ad shl p l e Rm s m args below meth c cells slots Q nL h pc L (.int y :: .int x :: S) := by
  intro H locs ls hc hs hl
  refine va_mmin X.1 X.2.1 (X.2.2.1.trans hl.1.symm) X.2.2.2.1 (X.2.2.2.2.1 _ w) (X.2.2.2.2.1 _ mS_LibMathmin) (X.2.2.2.2.1 _ mN_J9) (X.2.2.2.2.1 _ mK_LibMathmin) hf hlo hce hsl hd (kk _ ?_ H locs ls hc hs hl)
  have e : (if y < x then y else x).toInt = if y.toInt < x.toInt then y.toInt else x.toInt := by
    by_cases q : y < x
    · rw [if_pos q, if_pos ((tI_lt y x).mp q)]
    · rw [if_neg q, if_neg (fun z => q ((tI_lt y x).mpr z))]
  rw [e]; exact hG
theorem r_mabs (X : Cx E p s m args meth c cc own nL ret) {idx : Nat} {x : Int32} {K : Int → Option R} (hd : decode cc pc = .ok (.invokestatic idx, 3)) (w : Cond.methodLink own idx Lib.Math.abs.name ∈ gw) (hf : 1 ≤ Rm.frames) (hlo : (S.map fun v => v.category).sum + 13 ≤ Rm.locals) (hce : cells ≤ Rm.cells) (hsl : slots ≤ Rm.slots) (hG : absI x.toInt K = some res) (kk : ∀ Z : Int32, K Z.toInt = some res → Ev E ad shl p l e Rm s m args below meth c cells slots Q nL h (pc + 3) L (.int Z :: S)) : Ev E ad shl p l e Rm s m args below meth c cells slots Q nL h pc L (.int x :: S) := by
  intro H locs ls hc hs hl
  refine va_mabs X.1 X.2.1 (X.2.2.1.trans hl.1.symm) X.2.2.2.1 (X.2.2.2.2.1 _ w) (X.2.2.2.2.1 _ mS_LibMathabs) (X.2.2.2.2.1 _ mN_J9) (X.2.2.2.2.1 _ mK_LibMathabs) hf hlo hce hsl hd (kk _ ?_ H locs ls hc hs hl)
  have e : (if 0 ≤ x then x else 0 - x).toInt = wr (if 0 ≤ x.toInt then x.toInt else 0 - x.toInt) := by
    by_cases q : 0 ≤ x
    · rw [if_pos q, if_pos ((tI_0le x).mp q), wr_eq (tI_inR x)]
    · rw [if_neg q, if_neg (fun z => q ((tI_0le x).mpr z)), tI_sub]; rfl
  rw [e]; exact hG
-- System.arraycopy of ints
theorem nn0 {z : Int32} (h : 0 ≤ z.toInt) : ¬ z < 0 := fun q => by have := (tI_lt z 0).mp q; have e : (0 : Int32).toInt = 0 := rfl; omega
theorem r_copy (X : Cx E p s m args meth c cc own nL ret) {idx q0 n0 q1 n1 : Nat} {rs0 rs1 : List Nat} {sp dp n : Int32} {K : Hp → Option R} (hd : decode cc pc = .ok (.invokestatic idx, 3)) (w : Cond.methodLink own idx arraycopyName ∈ gw) (h0 : shl[q0]? = some (.inr (0, n0, rs0))) (h1 : shl[q1]? = some (.inr (0, n1, rs1)))
    (hf : 1 ≤ Rm.frames) (hlo : (S.map fun v => v.category).sum + (nativeFrameWords "java/lang/System" "arraycopy" 5 + 11) ≤ Rm.locals) (hG : cpI h q0 n0 sp.toInt q1 n1 dp.toInt n.toInt K = some res) (kk : ∀ h' : Hp, K h' = some res → Ev E ad shl p l e Rm s m args below meth c cells slots Q nL h' (pc + 3) L S) : Ev E ad shl p l e Rm s m args below meth c cells slots Q nL h pc L (.int n :: .int dp :: .ref (ad q1) :: .int sp :: .ref (ad q0) :: S) := by
  intro H locs ls hc hs hl
  unfold cpI at hG
  split at hG
  next hi =>
    obtain ⟨⟨g1, g2, g3⟩, g4, g5⟩ := hi
    refine va_copyi X.1 X.2.1 (X.2.2.1.trans hl.1.symm) X.2.2.2.1 (X.2.2.2.2.1 _ w) (X.2.2.2.2.1 _ mZ_arraycopy) (X.2.2.2.2.1 _ mS_arraycopy) (X.2.2.2.2.1 _ mN_J10) X.2.2.2.2.2.2.2.1 hc.1 hc.2.1 hs q0 q1 0 0 (wl_get h0) (wl_get h1) rfl rfl rfl (nn0 g1) (nn0 g2) (nn0 g3) (by simp only [toNatClamp]; omega) (by simp only [toNatClamp]; omega) (fun _ _ => rfl) hf hlo hd (fun H1 locs1 hP hD hS => ?_)
    refine kk _ hG H1 locs1 ls (CW_put h1 ?_ ?_ ?_ hP hD) hS hl
    · show _ = (Sum.inl (E.2.2.1 0, n1, .inl _) : va_E)
      congr 4
      funext j
      simp only [va_cpy, toNatClamp, true_and]
      split <;> rfl
    · intro p hp
      funext j
      simp [hp]
    · intro p j
      show inR (if _ then _ else _)
      split <;> exact hc.2.2 _ _
  next => cases hG
theorem r_copyT (X : Cx E p s m args meth c cc own nL ret) {idx k q1 n1 : Nat} {rs1 : List Nat} {q : String × String × List Int} {sp dp n : Int32} {K : Hp → Option R} (hd : decode cc pc = .ok (.invokestatic idx, 3)) (w : Cond.methodLink own idx arraycopyName ∈ gw) (hq : tabL[k]? = some q) (hr : ∀ j, j < q.2.2.length → inR (q.2.2.getD j 0)) (h1 : shl[q1]? = some (.inr (0, n1, rs1)))
    (hf : 1 ≤ Rm.frames) (hlo : (S.map fun v => v.category).sum + (nativeFrameWords "java/lang/System" "arraycopy" 5 + 11) ≤ Rm.locals) (hG : cpT q.2.2 sp.toInt h q1 n1 dp.toInt n.toInt K = some res) (kk : ∀ h' : Hp, K h' = some res → Ev E ad shl p l e Rm s m args below meth c cells slots Q nL h' (pc + 3) L S) : Ev E ad shl p l e Rm s m args below meth c cells slots Q nL h pc L (.int n :: .int dp :: .ref (ad q1) :: .int sp :: .ref (E.2.2.2.1 k) :: S) := by
  intro H locs ls hc hs hl T hT XX
  unfold cpT at hG
  split at hG
  next hi =>
    obtain ⟨⟨g1, g2, g3⟩, g4, g5⟩ := hi
    obtain ⟨src, s1, ⟨s2, k0, hk0, cm0, hkk0⟩, s3, s4, -, s5, s6⟩ := (X.2.2.2.2.2.2.2.2.1 k q hq).2
    have hsrc : H[E.2.2.2.1 k]? = some src := by rw [hs.2.1 _ (Array.getElem?_eq_some_iff.mp s1).1 s6]; exact s1
    have hent : (wl_ E ad h shl)[q1]? = some (ad q1, .inl (E.2.2.1 0, n1, .inl fun j => iI (h q1 j))) := wl_get h1
    have hdst : H[ad q1]? = some (vp_cell (E.2.2.1 0) (n1, .inl fun j => iI (h q1 j))) := hc.1 q1 _ hent
    obtain ⟨-, k1, hk1, cm1, hkk1⟩ := (X.2.2.2.2.2.2.2.1.2 0 _ rfl).1 n1 (fun j => .int (iI (h q1 j)))
    have e4 : sp.toNatClampNeg + n.toNatClampNeg ≤ q.2.2.length := by simp only [toNatClamp]; omega
    obtain ⟨vm', X', step⟩ := XX.arraycopy X.1 X.2.2.2.1 (X.2.2.2.2.1 _ w) (X.2.2.2.2.1 _ mZ_arraycopy) (X.2.2.2.2.1 _ mS_arraycopy) (X.2.2.2.2.1 _ mN_J10) (src := E.2.2.2.1 k) (dst := ad q1) (cs := src) (cd := vp_cell (E.2.2.1 0) (n1, .inl fun j => iI (h q1 j))) (srcPos := sp) (destPos := dp) (n := n)
      (by rw [hT]; exact hsrc) (by rw [hT]; exact hdst) s2 (fun _ h => by cases h) s3 (fun h => by cases h) hk0 hk1 hkk0 hkk1 (by simp [refKind]) (nn0 g1) (nn0 g2) (nn0 g3) (by omega)
      (by show ¬ _ > ((arrV (E.2.2.1 0) n1 (fun j => .int (iI (h q1 j)))).slots.size : Int); rw [arrV_size]; omega)
      (fun vm₁ _ i hi => by
        have e : src.slots.getD (sp.toNatClampNeg + i) .null = .int (iI (q.2.2.getD (sp.toNatClampNeg + i) 0)) := by
          rw [Array.getD_eq_getD_getElem?, s5 _ (by omega)]
          rfl
        rw [e]
        exact ⟨rfl, trivial⟩)
      (g := F0 m pc ls (.int n :: .int dp :: .ref (ad q1) :: .int sp :: .ref (E.2.2.2.1 k) :: S)) rfl (by rw [X.2.2.1]; exact hl.1) (rest := S) rfl (by rw [X.2.1]; exact hd) hf (by show 2 * 0 + _ + _ ≤ _; omega)
    have e1 : copied src (vp_cell (E.2.2.1 0) (n1, .inl fun j => iI (h q1 j))) sp dp n = vp_cell (E.2.2.1 0) (n1, .inl (va_cpy (fun j => iI (q.2.2.getD j 0)) (fun j => iI (h q1 j)) sp.toNatClampNeg dp.toNatClampNeg n.toNatClampNeg)) := va_copiedX (fun z => .int z) src (E.2.2.1 0) (fun j => iI (q.2.2.getD j 0)) (fun j => iI (h q1 j)) s5 e4
    rw [e1] at X' step
    have hlt : ad q1 < H.size := (Array.getElem?_eq_some_iff.mp hdst).1
    generalize hnew : vp_cell (E.2.2.1 0) (n1, .inl (va_cpy (fun j => iI (q.2.2.getD j 0)) (fun j => iI (h q1 j)) sp.toNatClampNeg dp.toNatClampNeg n.toNatClampNeg)) = new
    rw [hnew] at X' step
    have hheap : ((T.setVm vm').setCell (ad q1) new).heap = H.setIfInBounds (ad q1) new := by rw [← hT]; rfl
    have oq : ∀ a : Nat, a ≠ ad q1 → (H.setIfInBounds (ad q1) new)[a]? = H[a]? := fun a ha => by simp [Array.getElem?_setIfInBounds, Ne.symm ha]
    have hat : (H.setIfInBounds (ad q1) new)[ad q1]? = some new := by simp [Array.getElem?_setIfInBounds, hlt]
    have hP := hc.1.set hc.2.1 hent (e := .inl (E.2.2.1 0, n1, .inl (va_cpy (fun j => iI (q.2.2.getD j 0)) (fun j => iI (h q1 j)) sp.toNatClampNeg dp.toNatClampNeg n.toNatClampNeg))) (show va_at _ _ _ _ by show _ = some _; rw [hat, ← hnew]) oq
    have hD := hc.2.1.set hent (e := .inl (E.2.2.1 0, n1, .inl (va_cpy (fun j => iI (q.2.2.getD j 0)) (fun j => iI (h q1 j)) sp.toNatClampNeg dp.toNatClampNeg n.toNatClampNeg)))
    have hin : bsA E (ad q1) := hc.2.1.2 q1 _ hent
    have key := kk _ hG (H.setIfInBounds (ad q1) new) _ ls (CW_put h1 ?_ ?_ ?_ hP hD) ⟨by simp only [Array.size_setIfInBounds]; exact hs.1, fun a a1 a2 => by rw [oq a (fun z => a2 (by rw [z]; exact hin))]; exact hs.2.1 a a1 a2, fun a ha => by
        rcases List.mem_append.mp ha with z | z
        · exact hs.2.2 a z
        · obtain ⟨y, -, hy⟩ := List.mem_map.mp z
          rw [← hy]
          exact hin⟩ hl _ hheap X'
    · obtain ⟨t, a1, b1⟩ := key
      exact ⟨t, step t a1, b1⟩
    · show _ = (Sum.inl (E.2.2.1 0, n1, .inl _) : va_E)
      congr 4
      funext j
      simp only [va_cpy, toNatClamp, true_and]
      split <;> rfl
    · intro p hp
      funext j
      simp [hp]
    · intro p j
      show inR (if _ then _ else _)
      split
      next hj => exact hr _ (by omega)
      next => exact hc.2.2 _ _
  next => cases hG
-- calls
def QcI (E : EnvT) (ad : Nat → Nat) (shl : List Shp) (r : Int) (h' : Hp) : Array Value → State → Outcome → State → Prop := va_Qi (fun (Z : Int32) (_ : Unit) => Z.toInt = r) (fun _ t => World E ad shl h' t) (bsA E)
def QcV (E : EnvT) (ad : Nat → Nat) (shl : List Shp) (h' : Hp) : Array Value → State → Outcome → State → Prop := va_Qv (fun (_ : Unit) => True) (fun _ t => World E ad shl h' t) (bsA E)
def QcN (E : EnvT) (ad : Nat → Nat) (shl : List Shp) (r : Int) (h' : Hp) : Array Value → State → Outcome → State → Prop := fun _ st oc t => (oc = .returned (some (npv ad r)) ∧ World E ad shl h' t) ∧ va_F (bsA E) st t
abbrev wsM (y : MethodName) (b : ByteArray) (n : Nat) (r : Option FieldType) : List Cond := Cond.code y b n r :: gw
theorem good_M {y : MethodName} {b : ByteArray} {n : Nat} {r : Option FieldType} (hk : Cond.code y b n r ∈ gw) : GoodIn gw (wsM y b n r) := fun w hw => by
  rcases List.mem_cons.mp hw with rfl | hw
  · exact ⟨hk, gw_good hk⟩
  · exact ⟨hw, gw_good hw⟩
def RunOK (E : EnvT) (ad : Nat → Nat) (shl : List Shp) (p : Program) (l : Launch) (e : Env) (Rm : Room) (s : State) (m : MethodId) (args : Array Value) (below : List Frame) (meth : Method) (c : Code) (cells slots : Nat) (nL : Nat) (h : Hp) (pc : Nat) (L : List (Option Value)) (S0 S : List Value) (Qa : State → Outcome → State → Prop) : Prop :=
  ∀ (H : Heap) (locs : List Loc) (ls : Array Slot), CW E ad shl h H → va_S (bsA E) s.heap H locs → lvh ls nL L → va_Run p l e Rm s m args below meth c H locs cells slots 0 0 (F0 m pc ls S0) S Qa (bsA E)
theorem runV (X : Cx E p s m args meth c cc own nL ret) {y : MethodName} {C : String} {bytes : ByteArray} {maxL n idx b ci : Nat} {rt : Option FieldType} {rm : Room} {As S0 : List Value} {cs : List Nat} {q : vw_C} {Qc : Array Value → State → Outcome → State → Prop} (hd : decode cc pc = .ok (.invokevirtual idx, 3))
    (hM : Met l y (wsM y bytes maxL rt) rm (va_Pc (.ref (ad b) :: As) (World E ad shl h)) Qc 0 0 (bsA E)) (w1 : Cond.methodLink own idx y ∈ gw) (w2 : Cond.instanceMethod y ∈ gw) (w3 : Cond.selects C y y ∈ gw) (w4 : Cond.initialized C ∈ gw) (w5 : Cond.code y bytes maxL rt ∈ gw) (hb : shl[b]? = some (.inl (ci, cs))) (hcl : vwCl[ci]? = some q) (hC : q.1 = C) (hrc : rm.cells = 0) (hrs : rm.slots = 0)
    (hdd : y.cls = C ∧ y.cls ≠ "java/lang/invoke/MethodHandle" ∧ y.cls ≠ "java/lang/invoke/VarHandle" ∧ (parseMethodDescriptor y.desc).map (fun d => d.parameters.length) = some n) (hR : rm.frames + 1 ≤ Rm.frames ∧ 8 + (maxL + 11) + rm.locals ≤ Rm.locals) (hn : As.length = n) (hst : S0 = As.reverse ++ .ref (ad b) :: S) (hW : (S.map fun v => v.category).sum ≤ 8) (hce : cells ≤ Rm.cells ∧ slots ≤ Rm.slots) :
    RunOK E ad shl p l e Rm s m args below meth c cells slots nL h pc L S0 S (Qc (Value.ref (ad b) :: As).toArray) := by
  intro H locs ls hc hs hl
  subst hC
  refine va_runV (Ts := gw) (own := own) ⟨X.1, X.2.1, X.2.2.1, X.2.2.2.1, X.2.2.2.2.1⟩ hM (cwV n X.2.2.2.2.1 ?_ rfl hrc hrs hdd hR) ⟨?_, ?_, ?_⟩ rfl hn hl.1 hst (lv_room hW) hd ⟨by omega, by omega⟩
  · intro w hw
    unfold wsV at hw
    rcases List.mem_append.mp hw with h1 | h1
    · have hg : w ∈ gw := by
        simp only [List.mem_cons, List.not_mem_nil, or_false] at h1
        rcases h1 with rfl | rfl | rfl | rfl <;> assumption
      exact ⟨hg, gw_good hg⟩
    · exact good_M w5 w h1
  · intro a U g mk q; exact ⟨q.1, q.2.blind⟩
  · exact va_recv X.2.2.2.2.2.2.2.1 hc.1 hcl (q0 := b) (wl_get hb)
  · intro U hU hW; exact ⟨rfl, World.at X.2.2.2.2.2.2.2 hs hc hU hW⟩
theorem runS (X : Cx E p s m args meth c cc own nL ret) {y : MethodName} {bytes : ByteArray} {maxL n idx : Nat} {rt : Option FieldType} {rm : Room} {As S0 : List Value} {Qc : Array Value → State → Outcome → State → Prop} (hd : decode cc pc = .ok (.invokestatic idx, 3))
    (hM : Met l y (wsM y bytes maxL rt) rm (va_Pc As (World E ad shl h)) Qc 0 0 (bsA E)) (w1 : Cond.methodLink own idx y ∈ gw) (w2 : Cond.static y ∈ gw) (w4 : Cond.initialized y.cls ∈ gw) (w5 : Cond.code y bytes maxL rt ∈ gw) (hrc : rm.cells = 0) (hrs : rm.slots = 0)
    (hdd : y.cls ≠ "java/lang/invoke/MethodHandle" ∧ y.cls ≠ "java/lang/invoke/VarHandle" ∧ (parseMethodDescriptor y.desc).map (fun d => d.parameters.length) = some n) (hR : rm.frames + 1 ≤ Rm.frames ∧ 8 + (maxL + 11) + rm.locals ≤ Rm.locals) (hn : As.length = n) (hst : S0 = As.reverse ++ S) (hW : (S.map fun v => v.category).sum ≤ 8) (hce : cells ≤ Rm.cells ∧ slots ≤ Rm.slots) :
    RunOK E ad shl p l e Rm s m args below meth c cells slots nL h pc L S0 S (Qc As.toArray) := by
  intro H locs ls hc hs hl
  refine va_runS (Ts := gw) (own := own) ⟨X.1, X.2.1, X.2.2.1, X.2.2.2.1, X.2.2.2.2.1⟩ hM (va_cwS n X.2.2.2.2.1 ?_ rfl hrc hrs hdd hR) ⟨?_, ?_⟩ rfl hn hl.1 hst (lv_room hW) hd ⟨by omega, by omega⟩
  · intro w hw
    unfold va_wsS at hw
    rcases List.mem_append.mp hw with h1 | h1
    · have hg : w ∈ gw := by
        simp only [List.mem_cons, List.not_mem_nil, or_false] at h1
        rcases h1 with rfl | rfl | rfl <;> assumption
      exact ⟨hg, gw_good hg⟩
    · exact good_M w5 w h1
  · intro a U g mk q; exact ⟨q.1, q.2.blind⟩
  · intro U hU hW; exact ⟨rfl, World.at X.2.2.2.2.2.2.2 hs hc hU hW⟩
theorem runSN (X : Cx E p s m args meth c cc own nL ret) {y : MethodName} {host : String} {bytes : ByteArray} {maxL n idx : Nat} {rt : Option FieldType} {rm : Room} {As S0 : List Value} {Qc : Array Value → State → Outcome → State → Prop} (hd : decode cc pc = .ok (.invokestatic idx, 3))
    (hM : Met l y (wsM y bytes maxL rt) rm (va_Pc As (World E ad shl h)) Qc 0 0 (bsA E)) (w1 : (own, idx, y, host) ∈ nestL) (w2 : Cond.static y ∈ gw) (w4 : Cond.initialized y.cls ∈ gw) (w5 : Cond.code y bytes maxL rt ∈ gw) (hrc : rm.cells = 0) (hrs : rm.slots = 0)
    (hdd : y.cls ≠ "java/lang/invoke/MethodHandle" ∧ y.cls ≠ "java/lang/invoke/VarHandle" ∧ (parseMethodDescriptor y.desc).map (fun d => d.parameters.length) = some n) (hR : rm.frames + 1 ≤ Rm.frames ∧ 8 + (maxL + 11) + rm.locals ≤ Rm.locals) (hn : As.length = n) (hst : S0 = As.reverse ++ S) (hW : (S.map fun v => v.category).sum ≤ 8) (hce : cells ≤ Rm.cells ∧ slots ≤ Rm.slots) :
    RunOK E ad shl p l e Rm s m args below meth c cells slots nL h pc L S0 S (Qc As.toArray) := by
  intro H locs ls hc hs hl
  refine va_runSN (Ts := gw) (own := own) (host := host) ⟨X.1, X.2.1, X.2.2.1, X.2.2.2.1, X.2.2.2.2.1⟩ hM ⟨va_cnB n X.2.2.2.2.1 (good_M w5) rfl hrc hrs (X.2.2.2.2.2.2.2.2.2.2.1 _ w1) (X.2.2.2.2.1 _ w4) hdd hR, X.2.2.2.2.1 _ w2, trivial⟩ ⟨?_, ?_⟩ rfl hn hl.1 hst (lv_room hW) hd ⟨by omega, by omega⟩
  · intro a U g mk q; exact ⟨q.1, q.2.blind⟩
  · intro U hU hW; exact ⟨rfl, World.at X.2.2.2.2.2.2.2 hs hc hU hW⟩
theorem runStr (X : Cx E p s m args meth c cc own nL ret) {y : MethodName} {bytes : ByteArray} {maxL n idx k : Nat} {rt : Option FieldType} {rm : Room} {As S0 : List Value} {q : String × Nat × String} {Qc : Array Value → State → Outcome → State → Prop} (hd : decode cc pc = .ok (.invokevirtual idx, 3)) (hq : strL[k]? = some q)
    (hM : Met l y (wsM y bytes maxL rt) rm (va_Pc (.ref (E.2.2.2.2.1 k) :: As) (World E ad shl h)) Qc 0 0 (bsA E)) (w1 : Cond.methodLink own idx y ∈ gw) (w2 : Cond.instanceMethod y ∈ gw) (w3 : Cond.selects RJ0 y y ∈ gw) (w5 : Cond.code y bytes maxL rt ∈ gw) (hrc : rm.cells = 0) (hrs : rm.slots = 0)
    (hdd : y.cls = RJ0 ∧ y.cls ≠ "java/lang/invoke/MethodHandle" ∧ y.cls ≠ "java/lang/invoke/VarHandle" ∧ (parseMethodDescriptor y.desc).map (fun d => d.parameters.length) = some n) (hR : rm.frames + 1 ≤ Rm.frames ∧ 8 + (maxL + 11) + rm.locals ≤ Rm.locals) (hn : As.length = n) (hst : S0 = As.reverse ++ .ref (E.2.2.2.2.1 k) :: S) (hW : (S.map fun v => v.category).sum ≤ 8) (hce : cells ≤ Rm.cells ∧ slots ≤ Rm.slots) :
    RunOK E ad shl p l e Rm s m args below meth c cells slots nL h pc L S0 S (Qc (Value.ref (E.2.2.2.2.1 k) :: As).toArray) := by
  intro H locs ls hc hs hl
  refine va_runV (Ts := gw) (own := own) ⟨X.1, X.2.1, X.2.2.1, X.2.2.2.1, X.2.2.2.2.1⟩ hM (cwV n X.2.2.2.2.1 ?_ rfl hrc hrs hdd hR) ⟨?_, ?_, ?_⟩ rfl hn hl.1 hst (lv_room hW) hd ⟨by omega, by omega⟩
  · intro w hw
    unfold wsV at hw
    rcases List.mem_append.mp hw with h1 | h1
    · have hg : w ∈ gw := by
        simp only [List.mem_cons, List.not_mem_nil, or_false] at h1
        rcases h1 with rfl | rfl | rfl | rfl
        · exact w1
        · exact w2
        · exact w3
        · exact mN_J0
      exact ⟨hg, gw_good hg⟩
    · exact good_M w5 w h1
  · intro a U g mk q; exact ⟨q.1, q.2.blind⟩
  · obtain ⟨cell, a1, a2, a3, -⟩ := ((X.2.2.2.2.2.2.2.2.2.1 k q hq).2.1.kept hs.2.1)
    exact ⟨cell, a1, a2, a3⟩
  · intro U hU hW; exact ⟨rfl, World.at X.2.2.2.2.2.2.2 hs hc hU hW⟩
theorem r_cP {G : Option Int} {K : Int → Option R} {S0 : List Value} {a : Array Value} (hG : cP G K = some res) (hr : ∀ r, G = some r → RunOK E ad shl p l e Rm s m args below meth c cells slots nL h pc L S0 S (QcI E ad shl r h a)) (kk : ∀ Z : Int32, K Z.toInt = some res → Ev E ad shl p l e Rm s m args below meth c cells slots Q nL h (pc + 3) L (.int Z :: S)) : Ev E ad shl p l e Rm s m args below meth c cells slots Q nL h pc L S0 := by
  cases hg : G with
  | none => rw [hg] at hG; cases hG
  | some r =>
    rw [hg] at hG
    intro H locs ls hc hs hl
    refine va_calli (hr r hg H locs ls hc hs hl) hs (fun _ _ h => h) (fun _ h => h) (fun Z u t H1 locs1 ht hvm hw hB hz hk hS => ?_)
    refine kk Z (by rw [hw]; exact hG) H1 locs1 ls ?_ hS hl
    rw [← ht]; exact hB.2
theorem r_cW {G : Option (Int × Hp)} {K : Int → Hp → Option R} {S0 : List Value} {a : Array Value} (hG : cW G K = some res) (hr : ∀ r, G = some r → RunOK E ad shl p l e Rm s m args below meth c cells slots nL h pc L S0 S (QcI E ad shl r.1 r.2 a)) (kk : ∀ (Z : Int32) (h' : Hp), K Z.toInt h' = some res → Ev E ad shl p l e Rm s m args below meth c cells slots Q nL h' (pc + 3) L (.int Z :: S)) : Ev E ad shl p l e Rm s m args below meth c cells slots Q nL h pc L S0 := by
  cases hg : G with
  | none => rw [hg] at hG; cases hG
  | some r =>
    rw [hg] at hG
    intro H locs ls hc hs hl
    refine va_calli (hr r hg H locs ls hc hs hl) hs (fun _ _ h => h) (fun _ h => h) (fun Z u t H1 locs1 ht hvm hw hB hz hk hS => ?_)
    refine kk Z r.2 (by rw [hw]; exact hG) H1 locs1 ls ?_ hS hl
    rw [← ht]; exact hB.2
theorem r_cV {G : Option Hp} {K : Hp → Option R} {S0 : List Value} {a : Array Value} (hG : cV G K = some res) (hr : ∀ r, G = some r → RunOK E ad shl p l e Rm s m args below meth c cells slots nL h pc L S0 S (QcV E ad shl r a)) (kk : ∀ (h' : Hp), K h' = some res → Ev E ad shl p l e Rm s m args below meth c cells slots Q nL h' (pc + 3) L S) : Ev E ad shl p l e Rm s m args below meth c cells slots Q nL h pc L S0 := by
  cases hg : G with
  | none => rw [hg] at hG; cases hG
  | some r =>
    rw [hg] at hG
    intro H locs ls hc hs hl
    refine va_callv (hr r hg H locs ls hc hs hl) hs (fun _ _ h => h) (fun _ h => h) (fun u t H1 locs1 ht hvm hw hB hz hk hS => ?_)
    refine kk r hG H1 locs1 ls ?_ hS hl
    rw [← ht]; exact hB.2
theorem r_cN {G : Option Int} {K : Int → Option R} {S0 : List Value} {a : Array Value} (hG : cP G K = some res) (hr : ∀ r, G = some r → RunOK E ad shl p l e Rm s m args below meth c cells slots nL h pc L S0 S (QcN E ad shl r h a)) (kk : ∀ r : Int, G = some r → K r = some res → Ev E ad shl p l e Rm s m args below meth c cells slots Q nL h (pc + 3) L (npv ad r :: S)) : Ev E ad shl p l e Rm s m args below meth c cells slots Q nL h pc L S0 := by
  cases hg : G with
  | none => rw [hg] at hG; cases hG
  | some r =>
    rw [hg] at hG
    intro H locs ls hc hs hl T hT XX
    obtain ⟨v, st₀, t, T', L1, h0, X', hL, e1, e2, ⟨⟨hv, hB⟩, hz, hk⟩, st⟩ := hr r hg H locs ls hc hs hl T hT XX
    cases hv
    rw [h0] at hz hk
    obtain ⟨t2, a1, b1⟩ := kk r hg hG t.heap (locs ++ L1) ls hB.2 ⟨Nat.le_trans hs.1 hz, fun q q1 q2 => by rw [hk q (Nat.lt_of_lt_of_le q1 hs.1) q2]; exact hs.2.1 q q1 q2, fun q hq => by
      rcases List.mem_append.mp hq with z | z
      · exact hs.2.2 q z
      · exact hL q z⟩ hl T' e1 X'
    exact ⟨t2, st t2 a1, b1⟩
-- returns
theorem r_iretP {r : Int} {x : Int32} (X : Cx E p s m args meth c cc own nL (some .int)) (hd : decode cc pc = .ok (.ireturn, 1)) (hQ : Q = MQ below (QcI E ad shl r h) args s 0 0 (bsA E)) (hG : (some x.toInt : Option Int) = some r) : Ev E ad shl p l e Rm s m args below meth c 0 0 Q nL h pc L [.int x] := by
  subst hQ
  exact fun H locs ls hc hs hl => W.iret X.1 X.2.1 X.2.2.2.2.2.1 (fun t ht hW => ⟨⟨x, (), rfl, Option.some.inj hG, World.at X.2.2.2.2.2.2.2 hs hc ht hW⟩, hs.F ht⟩) hs.2.2 hd X.2.2.2.2.2.2.1
theorem r_iretW {r : Int × Hp} {x : Int32} (X : Cx E p s m args meth c cc own nL (some .int)) (hd : decode cc pc = .ok (.ireturn, 1)) (hQ : Q = MQ below (QcI E ad shl r.1 r.2) args s 0 0 (bsA E)) (hG : (some (x.toInt, h) : Option (Int × Hp)) = some r) : Ev E ad shl p l e Rm s m args below meth c 0 0 Q nL h pc L [.int x] := by
  subst hQ
  cases hG
  exact fun H locs ls hc hs hl => W.iret X.1 X.2.1 X.2.2.2.2.2.1 (fun t ht hW => ⟨⟨x, (), rfl, rfl, World.at X.2.2.2.2.2.2.2 hs hc ht hW⟩, hs.F ht⟩) hs.2.2 hd X.2.2.2.2.2.2.1
theorem r_zretP {r : Int} {x : Int32} (X : Cx E p s m args meth c cc own nL (some .boolean)) (hd : decode cc pc = .ok (.ireturn, 1)) (hQ : Q = MQ below (QcI E ad shl r h) args s 0 0 (bsA E)) (hG : retZ x.toInt = some r) : Ev E ad shl p l e Rm s m args below meth c 0 0 Q nL h pc L [.int x] := by
  subst hQ
  unfold retZ at hG
  split at hG
  next hz => exact fun H locs ls hc hs hl => W.zret X.1 X.2.1 X.2.2.2.2.2.1 (zzn hz).1 (fun t ht hW => ⟨⟨x, (), rfl, Option.some.inj hG, World.at X.2.2.2.2.2.2.2 hs hc ht hW⟩, hs.F ht⟩) hs.2.2 hd X.2.2.2.2.2.2.1
  next => cases hG
theorem r_zretW {r : Int × Hp} {x : Int32} (X : Cx E p s m args meth c cc own nL (some .boolean)) (hd : decode cc pc = .ok (.ireturn, 1)) (hQ : Q = MQ below (QcI E ad shl r.1 r.2) args s 0 0 (bsA E)) (hG : retZW x.toInt h = some r) : Ev E ad shl p l e Rm s m args below meth c 0 0 Q nL h pc L [.int x] := by
  subst hQ
  unfold retZW at hG
  split at hG
  next hz =>
    cases hG
    exact fun H locs ls hc hs hl => W.zret X.1 X.2.1 X.2.2.2.2.2.1 (zzn hz).1 (fun t ht hW => ⟨⟨x, (), rfl, rfl, World.at X.2.2.2.2.2.2.2 hs hc ht hW⟩, hs.F ht⟩) hs.2.2 hd X.2.2.2.2.2.2.1
  next => cases hG
theorem r_vret {r : Hp} (X : Cx E p s m args meth c cc own nL none) (hd : decode cc pc = .ok (.return_, 1)) (hQ : Q = MQ below (QcV E ad shl r) args s 0 0 (bsA E)) (hG : (some h : Option Hp) = some r) : Ev E ad shl p l e Rm s m args below meth c 0 0 Q nL h pc L [] := by
  subst hQ
  cases hG
  exact fun H locs ls hc hs hl => W.vret X.1 X.2.1 X.2.2.2.2.2.1 (fun t ht hW => ⟨⟨(), rfl, trivial, World.at X.2.2.2.2.2.2.2 hs hc ht hW⟩, hs.F ht⟩) hs.2.2 hd X.2.2.2.2.2.2.1
theorem r_aretN {r q : Int} {D : String} (X : Cx E p s m args meth c cc own nL (some (.object D))) (hd : decode cc pc = .ok (.areturn, 1)) (hQ : Q = MQ below (QcN E ad shl r h) args s 0 0 (bsA E)) (hG : (some q : Option Int) = some r) : Ev E ad shl p l e Rm s m args below meth c 0 0 Q nL h pc L [npv ad q] := by
  subst hQ
  cases hG
  intro H locs ls hc hs hl
  refine W.aret X.1 X.2.1 X.2.2.2.2.2.1 (Or.inl ⟨D, rfl⟩) ?_ (fun t ht hW => ⟨⟨rfl, World.at X.2.2.2.2.2.2.2 hs hc ht hW⟩, hs.F ht⟩) hs.2.2 hd X.2.2.2.2.2.2.1
  unfold npv
  split
  · exact Or.inl rfl
  · exact Or.inr ⟨_, rfl⟩
-- a method's contract out of its walk
theorem met_of {y : MethodName} {rm : Room} {av : List Value} {L0 : List (Option Value)} {Qc : Array Value → State → Outcome → State → Prop} (hy : plainName y.cls = true) (hown : y.cls = own) (hav : lvp 0 L0 = lv_args 0 av) (hlen : (lg_sl av).length ≤ nL)
    (body : ∀ (p : Program) (e : Env) (s : State) (m : MethodId) (below : List Frame) (meth : Method) (c : Code), Cx E p s m av.toArray meth c cc own nL ret → Ev E ad shl p l e rm s m av.toArray below meth c 0 0 (MQ below Qc av.toArray s 0 0 (bsA E)) nL h 0 L0 []) :
    Met l y (wsM y cc nL ret) rm (va_Pc av (World E ad shl h)) Qc 0 0 (bsA E) := by
  refine Met.ofW (cc := cc) (maxL := nL) (ret := ret) hy rfl ?_
  intro p e s m args below meth c s₁ B hml hv
  obtain ⟨rfl, hW⟩ := hv
  have hts := atoms_spec (ws := wsM y cc nL ret) B.pre
  rw [lg_entry_eq]
  refine body p e s m below meth c ⟨B.exec, B.bytes, hml, hown ▸ findClass_of_methodNamed B.named, fun w hw => hts w (List.mem_cons_of_mem _ hw), B.returns, B.notSynchronized, hW.1⟩ s.heap [] _ hW.2 va_S.rf ?_
  unfold lvh
  rw [hav]
  exact lv_entry av hlen

end ROWS
