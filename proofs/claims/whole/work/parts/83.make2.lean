/-! MAKING: contracts that make -/
def WorldG (E : EnvT) (ad : Nat → Nat) (shl : List Shp) (h : Hp) (U : State) : Prop := World E ad shl h U ∧ E.1 ≤ U.heap.size
def QcG (E : EnvT) (n : Nat) (ad : Nat → Nat) (shl : List Shp) (h : Hp) : Array Value → State → Outcome → State → Prop := va_Qv (fun (ad' : Nat → Nat) => ∀ p, p < n → ad' p = ad p) (fun ad' t => World E ad' shl h t) (bsA E)
/-- the world behind one more row of ints, named by field k of the object at b -/
def mkL (shl : List Shp) (b ci : Nat) (cs : List Nat) (k t N : Nat) : List Shp := (shl ++ [(Sum.inr (t, N, []) : Shp)]).set b (Sum.inl (ci, cs.set k (shl.length + 2)))
def MK (shl : List Shp) (h : Hp) (b ci : Nat) (cs : List Nat) : Prop := shl[b]? = some (.inl (ci, cs)) ∧ b < shl.length ∧ Cl shl h
theorem mkL_len {shl : List Shp} {b ci k t N : Nat} {cs : List Nat} : (mkL shl b ci cs k t N).length = shl.length + 1 := by unfold mkL; simp
theorem MK.mk {shl : List Shp} {h : Hp} {b ci k t N : Nat} {cs : List Nat} (m : MK shl h b ci cs) (ht : t < 3) : MK (mkL shl b ci cs k t N) (zR h shl.length) b ci (cs.set k (shl.length + 2)) := by
  obtain ⟨m1, m2, m3⟩ := m
  have hlt : b < (shl ++ [(.inr (t, N, []) : Shp)]).length := by simp; omega
  refine ⟨by unfold mkL; rw [List.getElem?_set_self hlt], by rw [mkL_len]; omega, fun p s hp => ?_⟩
  rw [mkL_len]
  have cp := m3.push (s := .inr (t, N, [])) (fun j => by simp)
  by_cases y : p = b
  · subst y
    unfold mkL at hp
    rw [List.getElem?_set_self hlt] at hp
    cases hp
    rw [zR_ne (by omega)]
    intro i x hx
    by_cases z : i = k
    · subst z
      have hk : i < cs.length := by
        have := (List.getElem?_eq_some_iff.mp hx).1
        rwa [List.length_set] at this
      rw [List.getElem?_set_self hk] at hx
      cases hx
      exact Or.inr (Or.inr ⟨by omega, by omega⟩)
    · rw [List.getElem?_set_ne (fun w => z w.symm)] at hx
      rcases m3 p _ m1 i x hx with q | q | q
      · exact Or.inl q
      · exact Or.inr (Or.inl ⟨q.1, by omega⟩)
      · exact Or.inr (Or.inr ⟨q.1, by omega⟩)
  · unfold mkL at hp
    rw [List.getElem?_set_ne (fun w => y w.symm)] at hp
    have := cp p s hp
    rw [List.length_append, List.length_singleton] at this
    exact this
theorem MK.set {shl : List Shp} {h : Hp} {b ci k : Nat} {cs : List Nat} {x : Int} (m : MK shl h b ci cs) (hk : cs[k]? = some 0) : MK shl (set2 h b k x) b ci cs := by
  obtain ⟨m1, m2, m3⟩ := m
  refine ⟨m1, m2, fun p s hp => ?_⟩
  by_cases y : p = b
  · subst y
    rw [m1] at hp
    cases hp
    intro i c hc
    rcases m3 p _ m1 i c hc with q | q | q
    · exact Or.inl q
    · by_cases z : i = k
      · subst z; rw [hk] at hc; cases hc; exact absurd q.1 (by decide)
      · exact Or.inr (Or.inl ⟨q.1, by rw [set2_nk _ _ _ _ _ _ z]; exact q.2⟩)
    · exact Or.inr (Or.inr q)
  · have e : set2 h b k x p = h p := set2_ne p y
    rw [e]
    exact m3 p s hp
section MAKE2
variable {E : EnvT} {ad : Nat → Nat} {shl : List Shp} {p : Program} {l : Launch} {e : Env} {Rm : Room} {s : State} {m : MethodId} {args : Array Value} {below : List Frame} {meth : Method} {c : Code} {cells slots : Nat} {Q : State → Prop} {nL : Nat} {cc : ByteArray} {own : String} {ret : Option FieldType}
variable {h : Hp} {pc : Nat} {L : List (Option Value)} {S : List Value}
theorem r_vretG {ad0 : Nat → Nat} {n mc ms : Nat} (X : Cx E p s m args meth c cc own nL none) (hd : decode cc pc = .ok (.return_, 1)) (hQ : Q = MQ below (QcG E n ad0 shl h) args s mc ms (bsA E)) (hp : ∀ p, p < n → ad p = ad0 p) : Ev E ad shl p l e Rm s m args below meth c mc ms Q nL h pc L [] := by
  subst hQ
  exact fun H locs ls hc hs hl => W.vret X.1 X.2.1 X.2.2.2.2.2.1 (fun t ht hW => ⟨⟨ad, rfl, hp, World.at X.2.2.2.2.2.2.2 hs hc ht hW⟩, hs.F ht⟩) hs.2.2 hd X.2.2.2.2.2.2.1
theorem met_ofG {y : MethodName} {rm : Room} {av : List Value} {L0 : List (Option Value)} {Qc : Array Value → State → Outcome → State → Prop} {mc ms : Nat} (hy : plainName y.cls = true) (hown : y.cls = own) (hav : lvp 0 L0 = lv_args 0 av) (hlen : (lg_sl av).length ≤ nL)
    (body : ∀ (p : Program) (e : Env) (s : State) (m : MethodId) (below : List Frame) (meth : Method) (c : Code), Cx E p s m av.toArray meth c cc own nL ret → meth.name = y.name → E.1 ≤ s.heap.size → Ev E ad shl p l e rm s m av.toArray below meth c 0 0 (MQ below Qc av.toArray s mc ms (bsA E)) nL h 0 L0 []) :
    Met l y (wsM y cc nL ret) rm (va_Pc av (WorldG E ad shl h)) Qc mc ms (bsA E) := by
  refine Met.ofW (cc := cc) (maxL := nL) (ret := ret) hy rfl ?_
  intro p e s m args below meth c s₁ B hml hv
  obtain ⟨rfl, hW, hsz⟩ := hv
  have hts := atoms_spec (ws := wsM y cc nL ret) B.pre
  rw [lg_entry_eq]
  refine body p e s m below meth c ⟨B.exec, B.bytes, hml, hown ▸ findClass_of_methodNamed B.named, fun w hw => hts w (List.mem_cons_of_mem _ hw), B.returns, B.notSynchronized, hW.1⟩ (name_of_methodNamed B.named B.method).1 hsz s.heap [] _ hW.2 va_S.rf ?_
  unfold lvh
  rw [hav]
  exact lv_entry av hlen
/-- a call that makes -/
theorem r_cG {S0 : List Value} {n mc ms : Nat} {shl' : List Shp} {h' : Hp} {a : Array Value} (hr : ∀ (H : Heap) (locs : List Loc) (ls : Array Slot), CW E ad shl h H → va_S (bsA E) s.heap H locs → lvh ls nL L → va_Run p l e Rm s m args below meth c H locs cells slots mc ms (F0 m pc ls S0) S (QcG E n ad shl' h' a) (bsA E))
    (kk : ∀ ad', (∀ p, p < n → ad' p = ad p) → Ev E ad' shl' p l e Rm s m args below meth c (cells + mc) (slots + ms) Q nL h' (pc + 3) L S) : Ev E ad shl p l e Rm s m args below meth c cells slots Q nL h pc L S0 := by
  intro H locs ls hc hs hl
  refine va_callv (hr H locs ls hc hs hl) hs (fun _ _ h => h) (fun _ h => h) (fun u t H1 locs1 ht hvm hw hB hz hk hS => ?_)
  refine kk u hw H1 locs1 ls ?_ hS hl
  rw [← ht]; exact hB.2
theorem runIG (X : Cx E p s m args meth c cc own nL ret) {y : MethodName} {bytes : ByteArray} {maxL idx b mc ms : Nat} {rm : Room} {Qc : Array Value → State → Outcome → State → Prop} (hA : E.1 ≤ s.heap.size) (hd : decode cc pc = .ok (.invokespecial idx, 3))
    (hM : Met l y (wsM y bytes maxL none) rm (va_Pc [.ref (ad b)] (WorldG E ad shl h)) Qc mc ms (bsA E)) (w1 : Cond.methodLink own idx y ∈ gw) (w2 : Cond.instanceMethod y ∈ gw) (w4 : Cond.initialized y.cls ∈ gw) (w5 : Cond.code y bytes maxL none ∈ gw) (hrc : rm.cells = mc) (hrs : rm.slots = ms) (hnm : y.name = "<init>")
    (hdd : y.cls ≠ "java/lang/invoke/MethodHandle" ∧ y.cls ≠ "java/lang/invoke/VarHandle" ∧ (parseMethodDescriptor y.desc).map (fun d => d.parameters.length) = some 0) (hR : rm.frames + 1 ≤ Rm.frames ∧ 8 + (maxL + 11) + rm.locals ≤ Rm.locals) (hW : (S.map fun v => v.category).sum ≤ 8) (hce : cells + mc ≤ Rm.cells ∧ slots + ms ≤ Rm.slots) :
    ∀ (H : Heap) (locs : List Loc) (ls : Array Slot), CW E ad shl h H → va_S (bsA E) s.heap H locs → lvh ls nL L → va_Run p l e Rm s m args below meth c H locs cells slots mc ms (F0 m pc ls (.ref (ad b) :: S)) S (Qc #[.ref (ad b)]) (bsA E) := by
  intro H locs ls hc hs hl
  exact va_runI (As := []) (Ts := gw) (own := own) ⟨X.1, X.2.1, X.2.2.1, X.2.2.2.1, X.2.2.2.2.1⟩ hM (cwI 0 X.2.2.2.2.1 (good_M w5) rfl hrc hrs (X.2.2.2.2.1 _ w4) (X.2.2.2.2.1 _ w1) (X.2.2.2.2.1 _ w2) hnm hdd hR) ⟨fun a U g mk q => ⟨q.1, q.2.1.blind, q.2.2⟩, fun U hU hW => ⟨rfl, World.at X.2.2.2.2.2.2.2 hs hc hU hW, by rw [hU]; exact Nat.le_trans hA hs.1⟩⟩ rfl rfl hl.1 rfl (lv_room hW) hd hce
theorem runING (X : Cx E p s m args meth c cc own nL ret) {y : MethodName} {host : String} {bytes : ByteArray} {maxL idx b mc ms : Nat} {rm : Room} {Qc : Array Value → State → Outcome → State → Prop} (hA : E.1 ≤ s.heap.size) (hd : decode cc pc = .ok (.invokespecial idx, 3))
    (hM : Met l y (wsM y bytes maxL none) rm (va_Pc [.ref (ad b)] (WorldG E ad shl h)) Qc mc ms (bsA E)) (w1 : (own, idx, y, host) ∈ nestL) (w2 : Cond.instanceMethod y ∈ gw) (w4 : Cond.initialized y.cls ∈ gw) (w5 : Cond.code y bytes maxL none ∈ gw) (hrc : rm.cells = mc) (hrs : rm.slots = ms) (hnm : y.name = "<init>")
    (hdd : y.cls ≠ "java/lang/invoke/MethodHandle" ∧ y.cls ≠ "java/lang/invoke/VarHandle" ∧ (parseMethodDescriptor y.desc).map (fun d => d.parameters.length) = some 0) (hR : rm.frames + 1 ≤ Rm.frames ∧ 8 + (maxL + 11) + rm.locals ≤ Rm.locals) (hW : (S.map fun v => v.category).sum ≤ 8) (hce : cells + mc ≤ Rm.cells ∧ slots + ms ≤ Rm.slots) :
    ∀ (H : Heap) (locs : List Loc) (ls : Array Slot), CW E ad shl h H → va_S (bsA E) s.heap H locs → lvh ls nL L → va_Run p l e Rm s m args below meth c H locs cells slots mc ms (F0 m pc ls (.ref (ad b) :: S)) S (Qc #[.ref (ad b)]) (bsA E) := by
  intro H locs ls hc hs hl
  exact va_runIN (As := []) (Ts := gw) (own := own) (host := host) ⟨X.1, X.2.1, X.2.2.1, X.2.2.2.1, X.2.2.2.2.1⟩ hM ⟨va_cnB 0 X.2.2.2.2.1 (good_M w5) rfl hrc hrs (X.2.2.2.2.2.2.2.2.2.2.1 _ w1) (X.2.2.2.2.1 _ w4) hdd hR, hnm, X.2.2.2.2.1 _ w2⟩ ⟨fun a U g mk q => ⟨q.1, q.2.1.blind, q.2.2⟩, fun U hU hW => ⟨rfl, World.at X.2.2.2.2.2.2.2 hs hc hU hW, by rw [hU]; exact Nat.le_trans hA hs.1⟩⟩ rfl rfl hl.1 rfl (lv_room hW) hd hce
/-- one more row of ints for a final field of this object -/
theorem r_mkI (X : Cx E p s m args meth c cc own nL ret) (hinit : meth.name = "<init>") (hA : E.1 ≤ s.heap.size) {b ci k N index NF w : Nat} {cs : List Nat} {T : u_T} {Z : Int32} (mk : MK shl h b ci cs) (hcl : vwCl[ci]? = some (own, T, NF)) (hin : ∀ w ∈ u_ws own T NF, w ∈ gw) (hk : k < NF) (hkc : k < cs.length) (hfin : (T k).2.2.2 = true) (hdc : (T k).1 = own) (hty : parseFieldDescriptor (T k).2.2.1 = some (.array .int)) (hlink : Cond.fieldLink own index (T k).1 (T k).2.1 (T k).2.2.1 ∈ gw)
    (hZ : Z.toInt = (N : Int)) (hN : N ≤ 1000) (hce : cells + 1 ≤ Rm.cells) (hsl : slots + N ≤ Rm.slots) (d0 : decode cc pc = .ok (.aload_n 0, 1)) (row : ∀ {H : Heap} {locs : List Loc} {ls : Array Slot} {st : List Value}, W p l e Rm s m args below meth c H locs cells slots Q (F0 m (pc + 1 + w) ls (.int Z :: st)) → W p l e Rm s m args below meth c H locs cells slots Q (F0 m (pc + 1) ls st))
    (d2 : decode cc (pc + 1 + w) = .ok (.newarray .int, 2)) (d3 : decode cc (pc + 1 + w + 2) = .ok (.putfield index, 3))
    (kk : ∀ ad', (∀ p, p < shl.length → ad' p = ad p) → Ev E ad' (mkL shl b ci cs k 0 N) p l e Rm s m args below meth c (cells + 1) (slots + N) Q nL (zR h shl.length) (pc + 1 + w + 2 + 3) [some (.ref (ad' b))] []) : Ev E ad shl p l e Rm s m args below meth c cells slots Q nL h pc [some (.ref (ad b))] [] := by
  obtain ⟨m1, m2, m3⟩ := mk
  refine r_aload_n X d0 rfl rfl ?_
  intro H locs ls hc hs hl
  refine row (r_newI X (N := N) m3 hZ hN hce hsl hA d2 (fun q => ?_) H locs ls hc hs hl)
  have e1 : upA ad shl.length q b = ad b := upA_ne (by omega)
  rw [← e1]
  have e2 : (Value.ref q) = .ref (upA ad shl.length q shl.length) := by rw [upA_same]
  rw [e2]
  have hb' : (shl ++ [(.inr (0, N, []) : Shp)])[b]? = some (.inl (ci, cs)) := by rw [List.getElem?_append_left m2]; exact m1
  exact r_putFin X hinit hb' hcl hin hk hkc hfin hdc (ty := .array .int) hty rfl rfl hlink d3 (kk (upA ad shl.length q) (fun p hp => upA_ne (by omega)))
end MAKE2
