/-! CONSTRUCTOR of TideKeep: what it leaves, its contract -/
def C0_8 : List Nat := [1, 1, 1, 1, 1, 1, 0, 1, 1, 1, 1, 1, 1]
def F8 (h g : Hp) : Prop := (g 0 1 = 3 ∧ g 0 2 = 9 ∧ g 0 3 = 15 ∧ g 0 4 = 20 ∧ g 0 6 = h 0 6) ∧ (g 1 1 = 0 ∧ g 1 6 = 0 ∧ g 1 7 = -1 ∧ ∀ k, g 2 k = 0) ∧
  ((∀ j, j < 11 → g 4 j = T_X0_UNTOLD.getD j 0) ∧ (∀ c, c < 64 → g 5 c = 0 ∧ g 6 c = 0) ∧ g 3 5 = 0 ∧ g 3 6 = 0 ∧ ∀ w : Nat, w ≤ 16 → g_X8_strengthOf (w : Int) (g 4 8) (g 4 9) (g 4 10) = some (g 8 w)) ∧
  (g 15 4 = 0 ∧ g 15 5 = 0 ∧ ∀ j, j < 9 → g 16 j = T_X2_UNTOLD.getD j 0) ∧ (∀ j, g 35 j = 0) ∧ (g 36 0 = 0 ∧ g 36 1 = 0 ∧ g 36 2 = 0) ∧
  ((∀ k, k < 64 → g 27 k = g 4 2 + g 5 k ∧ g 30 k = g 6 k ∧ g 28 k = g 4 5 ∧ g 29 k = 0) ∧ (∀ k, k < 3 → g 31 k = -1) ∧
    (g 26 7 = -1 ∧ g 26 9 = 0 ∧ g 26 10 = 0 ∧ g 26 11 = 0 ∧ g 26 12 = 0 ∧ g 26 13 = 0 ∧ g 26 14 = 0 ∧ g 26 15 = 0 ∧ g 26 8 = 1))
theorem H3_lo {shl : List Shp} {h : Hp} {p : Nat} (hp : p < shl.length) : H3 shl h p = h p := by
  unfold H3
  rw [set2_ne p (by omega), set2_ne p (by omega), mkHp_lo _ (by simp; omega), nH_ne (by omega)]
theorem H3_8 {shl : List Shp} {h : Hp} : H3 shl h shl.length 8 = 1 := by
  unfold H3
  exact set2_same _ _ _ _
theorem H6_lo {shl : List Shp} {h : Hp} {p : Nat} (hp : p < shl.length) : H6 shl h p = h p := by
  have hb : p < (b6 shl).length := by unfold b6; rw [List.length_set, S3_len]; simp; omega
  unfold H6
  rw [mkHp_lo _ hb, H3_lo (by simp; omega), nH_ne (by omega)]
theorem bs_beach {shl : List Shp} {h : Hp} {n : Nat} (hn : shl.length = n) (hd : 3 ≤ n) : ∃ g1 g2, g_X0_clear shl.length (HX 0 c0i s0i shl h) = some g1 ∧ g_X0_weigh shl.length g1 = some g2 ∧ (∀ p, p < n → g2 p = h p) ∧
    (∀ j, j < 11 → g2 (n + 1) j = T_X0_UNTOLD.getD j 0) ∧ (∀ c, c < 64 → g2 (n + 2) c = 0 ∧ g2 (n + 3) c = 0) ∧ g2 n 5 = 0 ∧ g2 n 6 = 0 ∧ ∀ w : Nat, w ≤ 16 → g_X8_strengthOf (w : Int) (g2 (n + 1) 8) (g2 (n + 1) 9) (g2 (n + 1) 10) = some (g2 (n + 5) w) := by
  subst hn
  obtain ⟨g1, b1, b2, b3, b4, b5, b6, b7, -, -⟩ := k_clear (d := shl.length) (hc := HX 0 c0i s0i shl h) hd
  obtain ⟨g2, w1, w2, w3⟩ := k_weigh (d := shl.length) (hc := g1) hd
  refine ⟨g1, g2, b1, w1, fun p hp => ?_, fun j hj => ?_, fun c hc => ?_, ?_, ?_, fun w hw => ?_⟩
  · rw [w2 p (by omega)]
    by_cases y : p = 1
    · subst y
      rw [b3, HX_lo hp]
    · rw [b2.1 p y (by omega), HX_lo hp]
  · rw [w2 _ (by omega)]; exact b4 j hj
  · rw [w2 _ (by omega), w2 _ (by omega)]; exact b5 c hc
  · rw [w2 _ (by omega)]; exact b6
  · rw [w2 _ (by omega)]; exact b7
  · rw [w2 (shl.length + 1) (by omega)]; exact w3 w hw
theorem bs_sea {shl : List Shp} {h : Hp} {n : Nat} (hn : shl.length = n) : ∃ g1, g_X2_clear shl.length (HX 2 c2i s2i shl h) = some g1 ∧ (∀ p, p < n → g1 p = h p) ∧ g1 n 4 = 0 ∧ g1 n 5 = 0 ∧ ∀ j, j < 9 → g1 (n + 1) j = T_X2_UNTOLD.getD j 0 := by
  subst hn
  obtain ⟨a1, a2, a3, a4, a5⟩ := clS_f (v := shl.length) (h := HX 2 c2i s2i shl h)
  exact ⟨_, k_sclear, fun p hp => by rw [a5 p (by omega) (by omega), HX_lo hp], a1, a2, a4⟩
def WorldX (E : EnvT) (ad : Nat → Nat) (shl : List Shp) (h : Hp) (U : State) : Prop := WorldG E ad shl h U ∧ va_AO RX1 U ∧ va_AO RX3 U
theorem va_AO_blind {C : String} {U : State} {g : JFrame} {mk : MethodId} {a : Array Value} (h : va_AO C U) : va_AO C (U.calling g mk a) := va_AO.moved (u := U) (U := U.calling g mk a) (Vm.Alike.refl U.vm) h
section MAKEX
variable {E : EnvT} {ad : Nat → Nat} {shl : List Shp} {p : Program} {l : Launch} {e : Env} {Rm : Room} {s : State} {m : MethodId} {args : Array Value} {below : List Frame} {meth : Method} {c : Code} {cells slots : Nat} {Q : State → Prop} {nL : Nat} {cc : ByteArray} {own : String} {ret : Option FieldType}
variable {h : Hp} {pc : Nat} {L : List (Option Value)} {S : List Value}
theorem Ev.widen {k n : Nat} (h1 : cells ≤ k) (h2 : slots ≤ n) (kk : Ev E ad shl p l e Rm s m args below meth c k n Q nL h pc L S) : Ev E ad shl p l e Rm s m args below meth c cells slots Q nL h pc L S :=
  fun H locs ls hc hs hl => W.widen h1 h2 (kk H locs ls hc hs hl)
theorem met_ofX {y : MethodName} {rm : Room} {av : List Value} {L0 : List (Option Value)} {Qc : Array Value → State → Outcome → State → Prop} {mc ms : Nat} (hy : plainName y.cls = true) (hown : y.cls = own) (hav : lvp 0 L0 = lv_args 0 av) (hlen : (lg_sl av).length ≤ nL)
    (body : ∀ (p : Program) (e : Env) (s : State) (m : MethodId) (below : List Frame) (meth : Method) (c : Code), Cx E p s m av.toArray meth c cc own nL ret → meth.name = y.name → E.1 ≤ s.heap.size → va_AO RX1 s → va_AO RX3 s → Ev E ad shl p l e rm s m av.toArray below meth c 0 0 (MQ below Qc av.toArray s mc ms (bsA E)) nL h 0 L0 []) :
    Met l y (wsM y cc nL ret) rm (va_Pc av (WorldX E ad shl h)) Qc mc ms (bsA E) := by
  refine Met.ofW (cc := cc) (maxL := nL) (ret := ret) hy rfl ?_
  intro p e s m args below meth c s₁ B hml hv
  obtain ⟨rfl, ⟨hW, hsz⟩, ho1, ho3⟩ := hv
  have hts := atoms_spec (ws := wsM y cc nL ret) B.pre
  rw [lg_entry_eq]
  refine body p e s m below meth c ⟨B.exec, B.bytes, hml, hown ▸ findClass_of_methodNamed B.named, fun w hw => hts w (List.mem_cons_of_mem _ hw), B.returns, B.notSynchronized, hW.1⟩ (name_of_methodNamed B.named B.method).1 hsz ho1 ho3 s.heap [] _ hW.2 va_S.rf ?_
  unfold lvh
  rw [hav]
  exact lv_entry av hlen
theorem runIX (X : Cx E p s m args meth c cc own nL ret) {y : MethodName} {bytes : ByteArray} {maxL idx b mc ms : Nat} {rm : Room} {Qc : Array Value → State → Outcome → State → Prop} (hA : E.1 ≤ s.heap.size) (ho1 : va_AO RX1 s) (ho3 : va_AO RX3 s) (hd : decode cc pc = .ok (.invokespecial idx, 3))
    (hM : Met l y (wsM y bytes maxL none) rm (va_Pc [.ref (ad b)] (WorldX E ad shl h)) Qc mc ms (bsA E)) (w1 : Cond.methodLink own idx y ∈ gw) (w2 : Cond.instanceMethod y ∈ gw) (w4 : Cond.initialized y.cls ∈ gw) (w5 : Cond.code y bytes maxL none ∈ gw) (hrc : rm.cells = mc) (hrs : rm.slots = ms) (hnm : y.name = "<init>")
    (hdd : y.cls ≠ "java/lang/invoke/MethodHandle" ∧ y.cls ≠ "java/lang/invoke/VarHandle" ∧ (parseMethodDescriptor y.desc).map (fun d => d.parameters.length) = some 0) (hR : rm.frames + 1 ≤ Rm.frames ∧ 8 + (maxL + 11) + rm.locals ≤ Rm.locals) (hW : (S.map fun v => v.category).sum ≤ 8) (hce : cells + mc ≤ Rm.cells ∧ slots + ms ≤ Rm.slots) :
    ∀ (H : Heap) (locs : List Loc) (ls : Array Slot), CW E ad shl h H → va_S (bsA E) s.heap H locs → lvh ls nL L → va_Run p l e Rm s m args below meth c H locs cells slots mc ms (F0 m pc ls (.ref (ad b) :: S)) S (Qc #[.ref (ad b)]) (bsA E) := by
  intro H locs ls hc hs hl
  exact va_runI (As := []) (Ts := gw) (own := own) ⟨X.1, X.2.1, X.2.2.1, X.2.2.2.1, X.2.2.2.2.1⟩ hM (cwI 0 X.2.2.2.2.1 (good_M w5) rfl hrc hrs (X.2.2.2.2.1 _ w4) (X.2.2.2.2.1 _ w1) (X.2.2.2.2.1 _ w2) hnm hdd hR) ⟨fun a U g mk q => ⟨q.1, ⟨q.2.1.1.blind, q.2.1.2⟩, va_AO_blind q.2.2.1, va_AO_blind q.2.2.2⟩, fun U hU hW => ⟨rfl, ⟨World.at X.2.2.2.2.2.2.2 hs hc hU hW, by rw [hU]; exact Nat.le_trans hA hs.1⟩, ho1.moved hW.alike, ho3.moved hW.alike⟩⟩ rfl rfl hl.1 rfl (lv_room hW) hd hce
end MAKEX
abbrev rm_X8_init : Room := { frames := 8, cells := 200, slots := 9000, locals := 300 }
section X8E
variable {E : EnvT} {ad : Nat → Nat} {l : Launch} {h : Hp}
set_option maxRecDepth 100000 in
set_option maxHeartbeats 8000000 in
theorem c_X8_init (K0 : MK k8_0 h 0 8 [1, 1, 1, 1, 1, 1, 0, 1, 1, 1, 1, 1, 1]) : ∃ g, F8 h g ∧ Met l yX8_init (wsM yX8_init cX8_init 2 none) rm_X8_init (va_Pc [.ref (ad 0)] (WorldX E ad k8_0 h)) (QcG E 1 ad k8_18 g) 200 9000 (bsA E) := by
  obtain ⟨H1, E1⟩ : ∃ H1, H1 = set2 (HX 5 c5i s5i k8_0 h) k8_0.length 7 (-1) := ⟨_, rfl⟩
  have d1 : ∀ p, p < 1 → H1 p = h p := fun p hp => by rw [E1, set2_ne p (by show p ≠ 1; omega), HX_lo (by show p < 1; omega)]
  obtain ⟨g1, g2, b1, b2, b3, b4, b5, b6, b7, b8⟩ := bs_beach (shl := k8_1) (h := H1) (n := 3) rfl (by omega)
  obtain ⟨H2, E2⟩ : ∃ H, H = set2 g2 0 1 3 := ⟨_, rfl⟩
  have d2 : ∀ p, p ≠ 0 → H2 p = g2 p := fun p hp => by rw [E2, set2_ne p hp]
  obtain ⟨g3, g4, c1, c2, c3_, -⟩ := bs_beach (shl := k8_2) (h := H2) (n := 9) rfl (by omega)
  obtain ⟨H3', E3⟩ : ∃ H, H = set2 g4 0 2 9 := ⟨_, rfl⟩
  have d3 : ∀ p, p ≠ 0 → H3' p = g4 p := fun p hp => by rw [E3, set2_ne p hp]
  obtain ⟨g5, s1, s2, s3, s4, s5⟩ := bs_sea (shl := k8_3) (h := H3') (n := 15) rfl
  obtain ⟨H4, E4⟩ : ∃ H, H = set2 g5 0 3 15 := ⟨_, rfl⟩
  have d4 : ∀ p, p ≠ 0 → H4 p = g5 p := fun p hp => by rw [E4, set2_ne p hp]
  obtain ⟨g6, u1, u2, -⟩ := bs_sea (shl := k8_4) (h := H4) (n := 20) rfl
  obtain ⟨H5, E5⟩ : ∃ H, H = set2 g6 0 4 20 := ⟨_, rfl⟩
  have d5 : ∀ p, p ≠ 0 → H5 p = g6 p := fun p hp => by rw [E5, set2_ne p hp]
  obtain ⟨H6', E6⟩ : ∃ H, H = zR H5 25 := ⟨_, rfl⟩
  have d6 : ∀ p, p < 25 → H6' p = H5 p := fun p hp => by rw [E6, zR_ne (by omega)]
  obtain ⟨H7, E7⟩ : ∃ H, H = H3 k8_6 H6' := ⟨_, rfl⟩
  have d7 : ∀ p, p < 26 → H7 p = H6' p := fun p hp => by rw [E7]; exact H3_lo hp
  have x7 : H7 26 8 = 1 := by rw [E7]; exact H3_8 (shl := k8_6)
  obtain ⟨H8, E8⟩ : ∃ H, H = zR H7 34 := ⟨_, rfl⟩
  have d8 : ∀ p, p < 34 → H8 p = H7 p := fun p hp => by rw [E8, zR_ne (by omega)]
  obtain ⟨H9, E9⟩ : ∃ H, H = zR H8 35 := ⟨_, rfl⟩
  have d9 : ∀ p, p < 35 → H9 p = H8 p := fun p hp => by rw [E9, zR_ne (by omega)]
  have x9 : ∀ j, H9 35 j = 0 := fun j => by rw [E9, zR_same]
  obtain ⟨H10, E10⟩ : ∃ H, H = HX 7 c7i s7i k8_9 H9 := ⟨_, rfl⟩
  have d10 : ∀ p, p < 36 → H10 p = H9 p := fun p hp => by rw [E10]; exact HX_lo hp
  have x10 : ∀ j, c7i.getD j 9 ≠ 1 → H10 36 j = 0 := fun j hj => by rw [E10]; exact HX_at (shl := k8_9) hj
  obtain ⟨H11, E11⟩ : ∃ H, H = H6 k8_10 H10 := ⟨_, rfl⟩
  have d11 : ∀ p, p < 46 → H11 p = H10 p := fun p hp => by rw [E11]; exact H6_lo hp
  obtain ⟨H12, E12⟩ : ∃ H, H = HX 4 c4i s4i k8_11 H11 := ⟨_, rfl⟩
  have d12 : ∀ p, p < 59 → H12 p = H11 p := fun p hp => by rw [E12]; exact HX_lo hp
  obtain ⟨H13, E13⟩ : ∃ H, H = HX 1 c1i s1i k8_12 H12 := ⟨_, rfl⟩
  have d13 : ∀ p, p < 61 → H13 p = H12 p := fun p hp => by rw [E13]; exact HX_lo hp
  obtain ⟨H14, E14⟩ : ∃ H, H = HX 1 c1i s1i k8_13 H13 := ⟨_, rfl⟩
  have d14 : ∀ p, p < 61 → H14 p = H13 p := fun p hp => by rw [E14]; exact HX_lo (Nat.lt_of_lt_of_le hp (by decide))
  obtain ⟨H15, E15⟩ : ∃ H, H = HX 1 c1i s1i k8_14 H14 := ⟨_, rfl⟩
  have d15 : ∀ p, p < 61 → H15 p = H14 p := fun p hp => by rw [E15]; exact HX_lo (Nat.lt_of_lt_of_le hp (by decide))
  obtain ⟨H16, E16⟩ : ∃ H, H = H3 k8_15 H15 := ⟨_, rfl⟩
  have d16 : ∀ p, p < 61 → H16 p = H15 p := fun p hp => by rw [E16]; exact H3_lo (Nat.lt_of_lt_of_le hp (by decide))
  obtain ⟨H17, E17⟩ : ∃ H, H = H3 k8_16 H16 := ⟨_, rfl⟩
  have d17 : ∀ p, p < 61 → H17 p = H16 p := fun p hp => by rw [E17]; exact H3_lo (Nat.lt_of_lt_of_le hp (by decide))
  obtain ⟨H18, E18⟩ : ∃ H, H = H3 k8_17 H17 := ⟨_, rfl⟩
  have d18 : ∀ p, p < 61 → H18 p = H17 p := fun p hp => by rw [E18]; exact H3_lo (Nat.lt_of_lt_of_le hp (by decide))
  -- downward
  have n12 : ∀ p, p < 59 → H18 p = H11 p := fun p hp => by rw [d18 p (by omega), d17 p (by omega), d16 p (by omega), d15 p (by omega), d14 p (by omega), d13 p (by omega), d12 p hp]
  have n10 : ∀ p, p < 46 → H18 p = H10 p := fun p hp => by rw [n12 p (by omega), d11 p hp]
  have n9 : ∀ p, p < 36 → H18 p = H9 p := fun p hp => by rw [n10 p (by omega), d10 p hp]
  have n7 : ∀ p, p < 34 → H18 p = H7 p := fun p hp => by rw [n9 p (by omega), d9 p (by omega), d8 p hp]
  have n5 : ∀ p, p < 25 → H18 p = H5 p := fun p hp => by rw [n7 p (by omega), d7 p (by omega), d6 p hp]
  have n4 : ∀ p, p ≠ 0 → p < 20 → H18 p = H4 p := fun p h0 hp => by rw [n5 p (by omega), d5 p h0, u2 p hp]
  have n3 : ∀ p, p ≠ 0 → p < 15 → H18 p = H3' p := fun p h0 hp => by rw [n4 p h0 (by omega), d4 p h0, s2 p hp]
  have n2 : ∀ p, p ≠ 0 → p < 9 → H18 p = H2 p := fun p h0 hp => by rw [n3 p h0 (by omega), d3 p h0, c3_ p hp]
  have n1 : ∀ p, p ≠ 0 → p < 3 → H18 p = H1 p := fun p h0 hp => by rw [n2 p h0 (by omega), d2 p h0, b3 p hp]
  have z0 : ∀ j, j ≠ 1 → j ≠ 2 → j ≠ 3 → j ≠ 4 → H18 0 j = h 0 j := fun j j1 j2 j3 j4 => by
    rw [n5 0 (by omega), E5, set2_nk _ _ _ _ _ _ j4, u2 0 (by omega), E4, set2_nk _ _ _ _ _ _ j3, s2 0 (by omega), E3, set2_nk _ _ _ _ _ _ j2, c3_ 0 (by omega), E2, set2_nk _ _ _ _ _ _ j1, b3 0 (by omega), d1 0 (by omega)]
  have z4 : H18 0 4 = 20 := by rw [n5 0 (by omega), E5, set2_same]
  have z3 : H18 0 3 = 15 := by rw [n5 0 (by omega), E5, set2_nk _ _ _ _ _ _ (by decide), u2 0 (by omega), E4, set2_same]
  have z2 : H18 0 2 = 9 := by rw [n5 0 (by omega), E5, set2_nk _ _ _ _ _ _ (by decide), u2 0 (by omega), E4, set2_nk _ _ _ _ _ _ (by decide), s2 0 (by omega), E3, set2_same]
  have z1 : H18 0 1 = 3 := by rw [n5 0 (by omega), E5, set2_nk _ _ _ _ _ _ (by decide), u2 0 (by omega), E4, set2_nk _ _ _ _ _ _ (by decide), s2 0 (by omega), E3, set2_nk _ _ _ _ _ _ (by decide), c3_ 0 (by omega), E2, set2_same]
  have m4 : ∀ p, 3 ≤ p → p < 9 → H18 p = g2 p := fun p h0 hp => by rw [n2 p (by omega) hp, d2 p (by omega)]
  have e4 : ∀ j, j < 11 → H18 4 j = T_X0_UNTOLD.getD j 0 := fun j hj => by rw [m4 4 (by omega) (by omega)]; exact b4 j hj
  have e5 : ∀ c, c < 64 → H18 5 c = 0 ∧ H18 6 c = 0 := fun c hc => by rw [m4 5 (by omega) (by omega), m4 6 (by omega) (by omega)]; exact b5 c hc
  obtain ⟨g, q1, q2, q3, q4, q5⟩ := k_begin0 (h := H18) (b := 26) (c := 3) (by omega) (by rw [e4 2 (by omega)]; decide) (fun k hk => by rw [(e5 k hk).1]; decide)
  have f0 : ∀ p, p < 26 → g p = H18 p := fun p hp => q2 p (Or.inl hp)
  have f1 : ∀ p, 34 ≤ p → g p = H18 p := fun p hp => q2 p (Or.inr hp)
  refine ⟨g, ⟨⟨?_, ?_, ?_, ?_, ?_⟩, ⟨?_, ?_, ?_, fun k => ?_⟩, ⟨fun j hj => ?_, fun c hc => ?_, ?_, ?_, fun w hw => ?_⟩, ⟨?_, ?_, fun j hj => ?_⟩, fun j => ?_, ⟨?_, ?_, ?_⟩, fun k hk => ?_, fun k hk => ?_, ?_⟩, ?_⟩
  · rw [f0 0 (by omega)]; exact z1
  · rw [f0 0 (by omega)]; exact z2
  · rw [f0 0 (by omega)]; exact z3
  · rw [f0 0 (by omega)]; exact z4
  · rw [f0 0 (by omega)]; exact z0 6 (by decide) (by decide) (by decide) (by decide)
  · rw [f0 1 (by omega), n1 1 (by omega) (by omega), E1, set2_nk _ _ _ _ _ _ (by decide)]; exact HX_at (shl := k8_0) (by decide)
  · rw [f0 1 (by omega), n1 1 (by omega) (by omega), E1, set2_nk _ _ _ _ _ _ (by decide)]; exact HX_at (shl := k8_0) (by decide)
  · rw [f0 1 (by omega), n1 1 (by omega) (by omega), E1]; exact set2_same _ _ _ _
  · rw [f0 2 (by omega), n1 2 (by omega) (by omega), E1, set2_ne 2 (by decide)]; exact HX_hi (shl := k8_0) (by decide) (by decide)
  · rw [f0 4 (by omega)]; exact e4 j hj
  · rw [f0 5 (by omega), f0 6 (by omega)]; exact e5 c hc
  · rw [f0 3 (by omega), m4 3 (by omega) (by omega)]; exact b6
  · rw [f0 3 (by omega), m4 3 (by omega) (by omega)]; exact b7
  · rw [f0 4 (by omega), f0 8 (by omega), m4 4 (by omega) (by omega), m4 8 (by omega) (by omega)]; exact b8 w hw
  · rw [f0 15 (by omega), n4 15 (by omega) (by omega), d4 15 (by omega)]; exact s3
  · rw [f0 15 (by omega), n4 15 (by omega) (by omega), d4 15 (by omega)]; exact s4
  · rw [f0 16 (by omega), n4 16 (by omega) (by omega), d4 16 (by omega)]; exact s5 j hj
  · rw [f1 35 (by omega), n9 35 (by omega)]; exact x9 j
  · rw [f1 36 (by omega), n10 36 (by omega)]; exact x10 0 (by decide)
  · rw [f1 36 (by omega), n10 36 (by omega)]; exact x10 1 (by decide)
  · rw [f1 36 (by omega), n10 36 (by omega)]; exact x10 2 (by decide)
  · rw [f0 4 (by omega), f0 5 (by omega), f0 6 (by omega)]; exact q3 k hk
  · exact q4 k hk
  · obtain ⟨r1, r2, r3, r4, r5, r6, r7, r8, r9⟩ := q5
    exact ⟨r1, r2, r3, r4, r5, r6, r7, r8, by rw [r9, n7 26 (by omega)]; exact x7⟩
  -- the walk
  · clear d1 d2 d3 d4 d5 d6 d7 d8 d9 d10 d11 d12 d13 d14 d15 d16 d17 d18 n12 n10 n9 n7 n5 n4 n3 n2 n1 z0 z2 z3 z4 m4 e4 e5 f0 f1 x7 x9 x10 b3 b4 b5 b6 b7 b8 c3_ s2 s3 s4 s5 u2 q2 q3 q4 q5
    refine met_ofX (L0 := [some (.ref (ad 0)), none]) rfl rfl rfl (Nat.le_of_ble_eq_true rfl) (fun p e s m below meth c X hnm hA ho1 ho3 => ?_)
    have hfr : 6 ≤ rm_X8_init.frames ∧ 200 ≤ rm_X8_init.locals := ⟨by decide, by decide⟩
    refine r_aload_n (pc := 0) X dX8_init_0 rfl rfl ?_
    refine r_objInit (pc := 1) X mM_X8_1 mI_objectInit mK_objectInit (Nat.le_of_ble_eq_true rfl) (Nat.le_of_ble_eq_true rfl) dX8_init_1 (by decide) ?_
    refine x8_a (h := h) X hnm hA K0 hfr (Nat.le_of_ble_eq_true rfl) (Nat.le_of_ble_eq_true rfl) E1 (fun a1 t1 K1 => ?_)
    refine x8_b (h := H1) X hA K1 hfr (Nat.le_of_ble_eq_true rfl) (Nat.le_of_ble_eq_true rfl) b1 b2 (fun a2 t2 K2 => ?_)
    rw [← E2] at K2 ⊢
    refine x8_c (h := H2) X hnm hA K2 hfr (Nat.le_of_ble_eq_true rfl) (Nat.le_of_ble_eq_true rfl) c1 c2 (fun a3 t3 K3 => ?_)
    rw [← E3] at K3 ⊢
    refine x8_d (h := H3') X hnm hA K3 hfr (Nat.le_of_ble_eq_true rfl) (Nat.le_of_ble_eq_true rfl) s1 (fun a4 t4 K4 => ?_)
    rw [← E4] at K4 ⊢
    refine x8_e (h := H4) X hnm hA K4 hfr (Nat.le_of_ble_eq_true rfl) (Nat.le_of_ble_eq_true rfl) u1 (fun a5 t5 K5 => ?_)
    rw [← E5] at K5 ⊢
    refine x8_j (h := H5) X hnm hA ho1 K5 hfr (Nat.le_of_ble_eq_true rfl) (Nat.le_of_ble_eq_true rfl) (fun a6 t6 K6 => ?_)
    rw [← E6] at K6 ⊢
    refine x8_f (h := H6') X hnm hA K6 hfr (Nat.le_of_ble_eq_true rfl) (Nat.le_of_ble_eq_true rfl) (fun a7 t7 K7 => ?_)
    rw [← E7] at K7 ⊢
    refine x8_k (h := H7) X hnm hA ho3 K7 hfr (Nat.le_of_ble_eq_true rfl) (Nat.le_of_ble_eq_true rfl) (fun a8 t8 K8 => ?_)
    rw [← E8] at K8 ⊢
    refine x8_l (h := H8) X hnm hA K8 hfr (Nat.le_of_ble_eq_true rfl) (Nat.le_of_ble_eq_true rfl) (fun a9 t9 K9 => ?_)
    rw [← E9] at K9 ⊢
    refine x8_g (h := H9) X hnm hA K9 hfr (Nat.le_of_ble_eq_true rfl) (Nat.le_of_ble_eq_true rfl) (fun a10 t10 K10 => ?_)
    rw [← E10] at K10 ⊢
    refine x8_h (h := H10) X hnm hA K10 hfr (Nat.le_of_ble_eq_true rfl) (Nat.le_of_ble_eq_true rfl) (fun a11 t11 K11 => ?_)
    rw [← E11] at K11 ⊢
    refine x8_i (h := H11) X hnm hA K11 hfr (Nat.le_of_ble_eq_true rfl) (Nat.le_of_ble_eq_true rfl) (fun a12 t12 K12 => ?_)
    rw [← E12] at K12 ⊢
    refine x8_z1 X (fun Z0 hZ0 => ?_)
    refine x8_p0 (h := H12) hZ0 X hnm hA K12 hfr (Nat.le_of_ble_eq_true rfl) (Nat.le_of_ble_eq_true rfl) (fun a13 t13 Z1 hZ1 K13 => ?_)
    rw [← E13] at K13 ⊢
    refine x8_p1 (h := H13) hZ1 X hnm hA K13 hfr (Nat.le_of_ble_eq_true rfl) (Nat.le_of_ble_eq_true rfl) (fun a14 t14 Z2 hZ2 K14 => ?_)
    rw [← E14] at K14 ⊢
    refine x8_p2 (h := H14) hZ2 X hnm hA K14 hfr (Nat.le_of_ble_eq_true rfl) (Nat.le_of_ble_eq_true rfl) (fun a15 t15 Z3 hZ3 K15 => ?_)
    rw [← E15] at K15 ⊢
    refine x8_z2 hZ3 X (fun Y0 hY0 => ?_)
    refine x8_s0 (h := H15) hY0 X hnm hA K15 hfr (Nat.le_of_ble_eq_true rfl) (Nat.le_of_ble_eq_true rfl) (fun a16 t16 Y1 hY1 K16 => ?_)
    rw [← E16] at K16 ⊢
    refine x8_s1 (h := H16) hY1 X hnm hA K16 hfr (Nat.le_of_ble_eq_true rfl) (Nat.le_of_ble_eq_true rfl) (fun a17 t17 Y2 hY2 K17 => ?_)
    rw [← E17] at K17 ⊢
    refine x8_s2 (h := H17) hY2 X hnm hA K17 hfr (Nat.le_of_ble_eq_true rfl) (Nat.le_of_ble_eq_true rfl) (fun a18 t18 Y3 hY3 K18 => ?_)
    rw [← E18] at K18 ⊢
    refine x8_z3 (h := H18) (g := g) hY3 X z1 q1 hfr ⟨Nat.le_of_ble_eq_true rfl, Nat.le_of_ble_eq_true rfl⟩ ?_
    refine Ev.widen (k := 200) (n := 9000) (Nat.le_of_ble_eq_true rfl) (Nat.le_of_ble_eq_true rfl) ?_
    refine r_vretG (pc := 189) (mc := 200) (ms := 9000) (n := 1) (ad0 := ad) X dX8_init_189 rfl (fun p hp => ?_)
    obtain rfl : p = 0 := by omega
    rw [t18, t17, t16, t15, t14, t13, t12, t11, t10, t9, t8, t7, t6, t5, t4, t3, t2, t1]
end X8E
