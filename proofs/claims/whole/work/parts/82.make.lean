/-! MAKING: the world grows -/
def upA (ad : Nat → Nat) (n q : Nat) : Nat → Nat := fun p => if p = n then q else ad p
def zR (h : Hp) (n : Nat) : Hp := fun p j => if p = n then 0 else h p j
theorem upA_same {ad : Nat → Nat} {n q : Nat} : upA ad n q n = q := if_pos rfl
theorem upA_ne {ad : Nat → Nat} {n q p : Nat} (h : p ≠ n) : upA ad n q p = ad p := if_neg h
theorem zR_same {h : Hp} {n : Nat} : zR h n n = fun _ => 0 := by funext j; exact if_pos rfl
theorem zR_ne {h : Hp} {n p : Nat} (hp : p ≠ n) : zR h n p = h p := by funext j; exact if_neg hp
/-- nothing in the world names a place that isn't there yet -/
def ClS (n : Nat) (s : Shp) (f : Nat → Int) : Prop := match s with
  | .inl o => ∀ k c, o.2[k]? = some c → c = 0 ∨ (c = 1 ∧ f k < (n : Int)) ∨ (2 ≤ c ∧ c < n + 2)
  | .inr a => ∀ j, a.2.2.getD j 0 ≤ n
def Cl (shl : List Shp) (h : Hp) : Prop := ∀ p s, shl[p]? = some s → ClS shl.length s (h p)
theorem ClS.mono {n m : Nat} {s : Shp} {f : Nat → Int} (c : ClS n s f) (hm : n ≤ m) : ClS m s f := by
  cases s with
  | inl o =>
    intro k x hk
    rcases c k x hk with y | y | y
    · exact Or.inl y
    · exact Or.inr (Or.inl ⟨y.1, by omega⟩)
    · exact Or.inr (Or.inr ⟨y.1, by omega⟩)
  | inr a => exact fun j => Nat.le_trans (c j) hm
theorem ent_up {E : EnvT} {ad : Nat → Nat} {n q : Nat} {f : Nat → Int} {s : Shp} (c : ClS n s f) : ent E (upA ad n q) f s = ent E ad f s := by
  cases s with
  | inl o =>
    show (Sum.inr (o.1, o.2.mapIdx fun k c => fv (upA ad n q) (f k) c) : va_E) = Sum.inr (o.1, o.2.mapIdx fun k c => fv ad (f k) c)
    congr 2
    apply List.ext_getElem?
    intro i
    rw [List.getElem?_mapIdx, List.getElem?_mapIdx]
    cases hk : o.2[i]? with
    | none => rfl
    | some x =>
      show some _ = some _
      congr 1
      show fv _ _ x = fv _ _ x
      rcases c i x hk with y | y | y
      · unfold fv; rw [if_pos y, if_pos y]
      · rw [y.1]
        show npv (upA ad n q) (f i) = npv ad (f i)
        unfold npv
        by_cases z : f i < 0
        · rw [if_pos z, if_pos z]
        · rw [if_neg z, if_neg z, upA_ne (by omega)]
      · unfold fv
        rw [if_neg (by omega), if_neg (by omega), if_neg (by omega), if_neg (by omega), upA_ne (by omega)]
  | inr a =>
    show (if a.1 < 3 then _ else _ : va_E) = if a.1 < 3 then _ else _
    by_cases y : a.1 < 3
    · rw [if_pos y, if_pos y]
    · rw [if_neg y, if_neg y]
      have : rqv (upA ad n q) a.2.2 = rqv ad a.2.2 := by
        funext j
        unfold rqv
        by_cases z : a.2.2.getD j 0 = 0
        · rw [if_pos z, if_pos z]
        · rw [if_neg z, if_neg z, upA_ne (by have := c j; omega)]
      rw [this]
theorem wl_up {E : EnvT} {ad : Nat → Nat} {shl : List Shp} {h : Hp} {q : Nat} (c : Cl shl h) : wl_ E (upA ad shl.length q) (zR h shl.length) shl = wl_ E ad h shl := by
  apply List.ext_getElem?
  intro i
  unfold wl_
  rw [List.getElem?_mapIdx, List.getElem?_mapIdx]
  cases hk : shl[i]? with
  | none => rfl
  | some s =>
    have hi := (List.getElem?_eq_some_iff.mp hk).1
    show some (upA ad shl.length q i, ent E (upA ad shl.length q) (zR h shl.length i) s) = some (ad i, ent E ad (h i) s)
    rw [upA_ne (by omega), zR_ne (by omega), ent_up (c i s hk)]
theorem wl_push {E : EnvT} {ad : Nat → Nat} {shl : List Shp} {h : Hp} {s : Shp} : wl_ E ad h (shl ++ [s]) = wl_ E ad h shl ++ [(ad shl.length, ent E ad (h shl.length) s)] := by
  unfold wl_
  rw [List.mapIdx_append]
  simp
theorem CW_push {E : EnvT} {ad : Nat → Nat} {shl : List Shp} {h : Hp} {H : Heap} {q : Nat} {s : Shp} {x : va_E} (c : Cl shl h) (hR : ∀ p k, inR (h p k)) (hx : x = ent E (upA ad shl.length q) (fun _ => 0) s) (hP : va_P E.2.1 vwCl (wl_ E ad h shl ++ [(q, x)]) H) (hD : va_D (bsA E) (wl_ E ad h shl ++ [(q, x)])) : CW E (upA ad shl.length q) (shl ++ [s]) (zR h shl.length) H := by
  have e : wl_ E (upA ad shl.length q) (zR h shl.length) (shl ++ [s]) = wl_ E ad h shl ++ [(q, x)] := by
    rw [wl_push, wl_up c, upA_same, zR_same, hx]
  refine ⟨by rw [e]; exact hP, by rw [e]; exact hD, fun p k => ?_⟩
  unfold zR
  split
  · exact ⟨by decide, by decide⟩
  · exact hR p k
theorem Cl.push {shl : List Shp} {h : Hp} {s : Shp} (c : Cl shl h) (hs : ClS (shl.length + 1) s (fun _ => 0)) : Cl (shl ++ [s]) (zR h shl.length) := by
  intro p x hp
  rw [List.length_append, List.length_singleton]
  by_cases y : p < shl.length
  · rw [List.getElem?_append_left y] at hp
    rw [zR_ne (by omega)]
    exact (c p x hp).mono (by omega)
  · have hl := (List.getElem?_eq_some_iff.mp hp).1
    rw [List.length_append, List.length_singleton] at hl
    obtain rfl : p = shl.length := by omega
    rw [List.getElem?_append_right (Nat.le_refl _), Nat.sub_self] at hp
    cases hp
    rw [zR_same]
    exact hs
section MAKE
variable {E : EnvT} {ad : Nat → Nat} {shl : List Shp} {p : Program} {l : Launch} {e : Env} {Rm : Room} {s : State} {m : MethodId} {args : Array Value} {below : List Frame} {meth : Method} {c : Code} {cells slots : Nat} {Q : State → Prop} {nL : Nat} {cc : ByteArray} {own : String} {ret : Option FieldType}
variable {h : Hp} {pc : Nat} {L : List (Option Value)} {S : List Value}
theorem toN32 {n : Int32} {N : Nat} (hn : n.toInt = (N : Int)) : ¬ n < 0 ∧ n.toNatClampNeg = N := by
  refine ⟨fun q => ?_, by rw [toNatClamp]; omega⟩
  have := (tI_lt n 0).mp q
  rw [show (0 : Int32).toInt = 0 from rfl] at this
  omega
theorem r_newI (X : Cx E p s m args meth c cc own nL ret) {n : Int32} {N : Nat} (cl : Cl shl h) (hn : n.toInt = (N : Int)) (hN : N ≤ 1000) (hce : cells + 1 ≤ Rm.cells) (hsl : slots + N ≤ Rm.slots) (hA : E.1 ≤ s.heap.size) (hd : decode cc pc = .ok (.newarray .int, 2))
    (kk : ∀ q, Ev E (upA ad shl.length q) (shl ++ [.inr (0, N, [])]) p l e Rm s m args below meth c (cells + 1) (slots + N) Q nL (zR h shl.length) (pc + 2) L (.ref q :: S)) : Ev E ad shl p l e Rm s m args below meth c cells slots Q nL h pc L (.int n :: S) := by
  intro H locs ls hc hs hl
  refine va_newa (atype := .int) X.1 X.2.1 (X.2.2.2.2.1 _ mA_1_61) rfl X.2.2.2.2.2.2.2.1 hc.1 hc.2.1 hs (fun q hq => Nat.le_trans hA hq) (a0 := (N, .inl fun _ => 0)) (fun cA => rfl) (toN32 hn).1 (toN32 hn).2 (by show N * 4 ≤ _; omega) hce hsl hd (fun q cA H1 hK hP hD hS => ?_)
  have ec : cA = E.2.2.1 0 := by
    have a := (hK.2 0 (E.2.2.1 0, .int) rfl).2
    have b := (hK.2 5 (cA, .int) rfl).2
    exact Option.some.inj (Eq.trans (Eq.symm b) a)
  exact kk q H1 locs ls (CW_push cl hc.2.2 (by rw [ec]; rfl) hP hD) hS hl
theorem r_newB (X : Cx E p s m args meth c cc own nL ret) {n : Int32} {N : Nat} (cl : Cl shl h) (hn : n.toInt = (N : Int)) (hN : N ≤ 1000) (hce : cells + 1 ≤ Rm.cells) (hsl : slots + N ≤ Rm.slots) (hA : E.1 ≤ s.heap.size) (hd : decode cc pc = .ok (.newarray .byte, 2))
    (kk : ∀ q, Ev E (upA ad shl.length q) (shl ++ [.inr (1, N, [])]) p l e Rm s m args below meth c (cells + 1) (slots + N) Q nL (zR h shl.length) (pc + 2) L (.ref q :: S)) : Ev E ad shl p l e Rm s m args below meth c cells slots Q nL h pc L (.int n :: S) := by
  intro H locs ls hc hs hl
  refine va_newa (atype := .byte) X.1 X.2.1 (X.2.2.2.2.1 _ mA_3_108) rfl X.2.2.2.2.2.2.2.1 hc.1 hc.2.1 hs (fun q hq => Nat.le_trans hA hq) (a0 := (N, .inl fun _ => 0)) (fun cA => rfl) (toN32 hn).1 (toN32 hn).2 (by show N * 1 ≤ _; omega) hce hsl hd (fun q cA H1 hK hP hD hS => ?_)
  have ec : cA = E.2.2.1 1 := by
    have a := (hK.2 1 (E.2.2.1 1, .byte) rfl).2
    have b := (hK.2 5 (cA, .byte) rfl).2
    exact Option.some.inj (Eq.trans (Eq.symm b) a)
  exact kk q H1 locs ls (CW_push cl hc.2.2 (by rw [ec]; rfl) hP hD) hS hl
theorem r_newZ (X : Cx E p s m args meth c cc own nL ret) {n : Int32} {N : Nat} (cl : Cl shl h) (hn : n.toInt = (N : Int)) (hN : N ≤ 1000) (hce : cells + 1 ≤ Rm.cells) (hsl : slots + N ≤ Rm.slots) (hA : E.1 ≤ s.heap.size) (hd : decode cc pc = .ok (.newarray .boolean, 2))
    (kk : ∀ q, Ev E (upA ad shl.length q) (shl ++ [.inr (2, N, [])]) p l e Rm s m args below meth c (cells + 1) (slots + N) Q nL (zR h shl.length) (pc + 2) L (.ref q :: S)) : Ev E ad shl p l e Rm s m args below meth c cells slots Q nL h pc L (.int n :: S) := by
  intro H locs ls hc hs hl
  refine va_newa (atype := .boolean) X.1 X.2.1 (X.2.2.2.2.1 _ mA_2_55) rfl X.2.2.2.2.2.2.2.1 hc.1 hc.2.1 hs (fun q hq => Nat.le_trans hA hq) (a0 := (N, .inl fun _ => 0)) (fun cA => rfl) (toN32 hn).1 (toN32 hn).2 (by show N * 1 ≤ _; omega) hce hsl hd (fun q cA H1 hK hP hD hS => ?_)
  have ec : cA = E.2.2.1 2 := by
    have a := (hK.2 2 (E.2.2.1 2, .boolean) rfl).2
    have b := (hK.2 5 (cA, .boolean) rfl).2
    exact Option.some.inj (Eq.trans (Eq.symm b) a)
  exact kk q H1 locs ls (CW_push cl hc.2.2 (by rw [ec]; rfl) hP hD) hS hl
/-- an object is made: its references are null, its numbers 0 -/
theorem r_newO (X : Cx E p s m args meth c cc own nL ret) {C : String} {T : u_T} {N ci index : Nat} {cs : List Nat} (cl : Cl shl h) (hcl : vwCl[ci]? = some (C, T, N)) (hin : ∀ w ∈ u_ws C T N, w ∈ gw) (ty : Nat → FieldType) (hty : ∀ k, k < N → parseFieldDescriptor (T k).2.2.1 = some (ty k)) (hlink : Cond.classLink own index C ∈ gw) (hinst : Cond.instantiable C N ∈ gw) (hini : Cond.initialized C ∈ gw) (hcs : cs.length = N) (hfs : ∀ j, j < N → defaultValue (ty j) = (if cs.getD j 9 = 0 then .int 0 else .null)) (h01 : ∀ j, j < N → cs.getD j 9 = 0 ∨ cs.getD j 9 = 1)
    (hce : cells + 1 ≤ Rm.cells) (hsl : slots + N ≤ Rm.slots) (hA : E.1 ≤ s.heap.size) (hd : decode cc pc = .ok (.new index, 3))
    (kk : ∀ q, Ev E (upA ad shl.length q) (shl ++ [.inl (ci, cs)]) p l e Rm s m args below meth c (cells + 1) (slots + N) Q nL (fun a j => if a = shl.length ∧ cs.getD j 9 = 1 then -1 else zR h shl.length a j) (pc + 3) L (.ref q :: S)) : Ev E ad shl p l e Rm s m args below meth c cells slots Q nL h pc L S := by
  intro H locs ls hc hs hl
  have hx : ∀ q, ent E (upA ad shl.length q) (fun j => if cs.getD j 9 = 1 then -1 else 0) (.inl (ci, cs)) = (Sum.inr (ci, cs.map fun x => if x = 0 then .int 0 else .null) : va_E) := by
    intro q
    show (Sum.inr (ci, cs.mapIdx fun k x => fv (upA ad shl.length q) (if cs.getD k 9 = 1 then -1 else 0) x) : va_E) = _
    congr 2
    apply List.ext_getElem?
    intro i
    rw [List.getElem?_mapIdx, List.getElem?_map]
    cases hk : cs[i]? with
    | none => rfl
    | some x =>
      have hi := (List.getElem?_eq_some_iff.mp hk).1
      have hg : cs.getD i 9 = x := by rw [List.getD_eq_getElem?_getD, hk]; rfl
      show some (fv _ _ x) = some _
      rcases h01 i (by omega) with y | y
      · rw [hg] at y; subst y; rw [hg]; rfl
      · rw [hg] at y; subst y; rw [hg]; rfl
  refine va_new X.1 X.2.1 X.2.2.2.2.1 hin ty hty X.2.2.2.1 (X.2.2.2.2.1 _ hlink) (X.2.2.2.2.1 _ hinst) (X.2.2.2.2.1 _ hini) X.2.2.2.2.2.2.2.1 hc.1 hc.2.1 hs (fun q hq => Nat.le_trans hA hq) hcl (fs := cs.map fun x => if x = 0 then .int 0 else .null) (fun j hj => ?_) hce hsl hd (fun q H1 hP hD hS => ?_)
  · rw [hfs j hj]
    unfold vp_V
    have hj' : j < cs.length := by omega
    simp [List.getD_eq_getElem?_getD, List.getElem?_map, List.getElem?_eq_getElem hj']
  · refine kk q H1 locs ls ?_ hS hl
    have e : wl_ E (upA ad shl.length q) (fun a j => if a = shl.length ∧ cs.getD j 9 = 1 then -1 else zR h shl.length a j) (shl ++ [.inl (ci, cs)]) = wl_ E ad h shl ++ [(q, .inr (ci, cs.map fun x => if x = 0 then .int 0 else .null))] := by
      have w1 : ∀ (g g' : Hp), (∀ a, a < shl.length → g a = g' a) → wl_ E (upA ad shl.length q) g shl = wl_ E (upA ad shl.length q) g' shl := by
        intro g g' hg
        apply List.ext_getElem?
        intro i
        unfold wl_
        rw [List.getElem?_mapIdx, List.getElem?_mapIdx]
        cases hk : shl[i]? with
        | none => rfl
        | some x => show some _ = some _; rw [hg i (List.getElem?_eq_some_iff.mp hk).1]
      rw [wl_push, w1 _ (zR h shl.length) (fun a ha => by funext j; rw [if_neg (by omega)]), wl_up cl, upA_same, ← hx q]
      congr 4
      funext j
      by_cases y : cs.getD j 9 = 1
      · rw [if_pos ⟨rfl, y⟩, if_pos y]
      · rw [if_neg (fun z => y z.2), if_neg y, zR_same]
    refine ⟨by rw [e]; exact hP, by rw [e]; exact hD, fun a j => ?_⟩
    show inR (if _ then _ else _)
    split
    · exact ⟨by decide, by decide⟩
    · unfold zR
      split
      · exact ⟨by decide, by decide⟩
      · exact hc.2.2 a j
/-- a reference comes into a field, once for all -/
theorem wl_cset {b ci k q : Nat} {cs : List Nat} (hb : shl[b]? = some (.inl (ci, cs))) (hk : k < cs.length) : (wl_ E ad h shl).set b (ad b, .inr (ci, (cs.mapIdx fun k c => fv ad (h b k) c).set k (.ref (ad q)))) = wl_ E ad h (shl.set b (.inl (ci, cs.set k (q + 2)))) := by
  apply List.ext_getElem?
  intro i
  have hlt := (List.getElem?_eq_some_iff.mp hb).1
  by_cases hi : i = b
  · subst hi
    have hl2 : i < (wl_ E ad h shl).length := by simpa [wl_] using hlt
    rw [List.getElem?_set_self hl2]
    unfold wl_
    rw [List.getElem?_mapIdx, List.getElem?_set_self hlt]
    show some _ = some (ad i, (Sum.inr (ci, (cs.set k (q + 2)).mapIdx fun k c => fv ad (h i k) c) : va_E))
    congr 4
    apply List.ext_getElem?
    intro j
    by_cases hj : j = k
    · subst hj
      rw [List.getElem?_set_self (by simpa using hk), List.getElem?_mapIdx, List.getElem?_set_self hk]
      show some _ = some (fv ad (h i j) (q + 2))
      unfold fv
      rw [if_neg (by omega), if_neg (by omega), Nat.add_sub_cancel]
    · rw [List.getElem?_set_ne (fun z => hj z.symm), List.getElem?_mapIdx, List.getElem?_mapIdx, List.getElem?_set_ne (fun z => hj z.symm)]
  · rw [List.getElem?_set_ne (fun z => hi z.symm)]
    unfold wl_
    rw [List.getElem?_mapIdx, List.getElem?_mapIdx, List.getElem?_set_ne (fun z => hi z.symm)]
theorem r_putFin (X : Cx E p s m args meth c cc own nL ret) (hinit : meth.name = "<init>") {b k ci index N q : Nat} {cs : List Nat} {T : u_T} {ty : FieldType} (hb : shl[b]? = some (.inl (ci, cs))) (hcl : vwCl[ci]? = some (own, T, N)) (hin : ∀ w ∈ u_ws own T N, w ∈ gw) (hk : k < N) (hkc : k < cs.length) (hfin : (T k).2.2.2 = true) (hdc : (T k).1 = own) (hty : parseFieldDescriptor (T k).2.2.1 = some ty) (hnr : narrow ty (.ref (ad q)) = .ref (ad q)) (hft : fits ty (.ref (ad q)) = true) (hlink : Cond.fieldLink own index (T k).1 (T k).2.1 (T k).2.2.1 ∈ gw) (hd : decode cc pc = .ok (.putfield index, 3))
    (kk : Ev E ad (shl.set b (.inl (ci, cs.set k (q + 2)))) p l e Rm s m args below meth c cells slots Q nL h (pc + 3) L S) : Ev E ad shl p l e Rm s m args below meth c cells slots Q nL h pc L (.ref (ad q) :: .ref (ad b) :: S) := by
  intro H locs ls hc hs hl
  obtain ⟨hnm, ty0, hty0⟩ := nm_of hcl
  have hlink' : Cond.fieldLink own index own (T k).2.1 (T k).2.2.1 ∈ gw := by rw [hdc] at hlink; exact hlink
  refine va_putF (ref := own) X.1 X.2.1 X.2.2.2.2.1 hin ty0 hty0 hnm X.2.2.2.1 X.2.2.2.2.2.2.2.1 hc.1 hc.2.1 hs b (fs := cs.mapIdx fun k c => fv ad (h b k) c) (wl_get hb) hcl k hk (X.2.2.2.2.1 _ hlink') (fun x hx => by rw [hdc] at hx; exact hx) hfin hinit hdc (ty := ty) hty hnr hft (by simpa using hkc) hd (fun H1 locs1 hP hD hS => ?_)
  exact kk H1 locs1 ls ⟨by rw [← wl_cset hb hkc]; exact hP, by rw [← wl_cset hb hkc]; exact hD, hc.2.2⟩ hS hl
theorem r_objInit (X : Cx E p s m args meth c cc own nL ret) {b index : Nat} (hlink : Cond.methodLink own index objectInit ∈ gw) (him : Cond.instanceMethod objectInit ∈ gw) (hcode : Cond.code objectInit ⟨#[0xb1]⟩ 1 none ∈ gw) (hfr : 1 ≤ Rm.frames) (hlo : 12 ≤ Rm.locals) (hd : decode cc pc = .ok (.invokespecial index, 3)) (hLs : nL ≤ 4)
    (kk : Ev E ad shl p l e Rm s m args below meth c cells slots Q nL h (pc + 3) L []) : Ev E ad shl p l e Rm s m args below meth c cells slots Q nL h pc L [.ref b] := by
  intro H locs ls hc hs hl
  refine W.objInit X.1 X.2.1 X.2.2.2.1 (X.2.2.2.2.1 _ hlink) (X.2.2.2.2.1 _ him) (X.2.2.2.2.1 _ hcode) rfl (by rw [X.2.2.1]; exact hl.1) rfl hd hfr ?_ ?_
  · exact hlo
  · exact W.eq (g2 := F0 m (pc + 3) ls []) rfl (kk H locs ls hc hs hl)
end MAKE
