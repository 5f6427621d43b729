/-! CONSTRUCTOR of TideKeep: beaches -/
section X8B
variable {E : EnvT} {ad : Nat → Nat} {p : Program} {l : Launch} {e : Env} {Rm : Room} {s : State} {m : MethodId} {args : Array Value} {below : List Frame} {meth : Method} {c : Code} {Q : State → Prop} {h g1 g2 : Hp}
set_option maxRecDepth 100000 in
set_option maxHeartbeats 4000000 in
/-- pc 15 to 26: the first beach -/
theorem x8_b {cells slots : Nat} (X : Cx E p s m args meth c cX8_init RX8 2 none) (hS : E.1 ≤ s.heap.size) (M1 : MK k8_1 h 0 8 [3, 1, 1, 1, 1, 1, 0, 1, 1, 1, 1, 1, 1]) (hfr : 6 ≤ Rm.frames ∧ 200 ≤ Rm.locals) (hce : cells + 100 ≤ Rm.cells) (hsl : slots + 5000 ≤ Rm.slots)
    (E2 : g_X0_clear k8_1.length (HX 0 c0i s0i k8_1 h) = some g1) (E3 : g_X0_weigh k8_1.length g1 = some g2)
    (kk : ∀ ad', ad' 0 = ad 0 → MK k8_2 (set2 g2 0 1 3) 0 8 [3, 1, 1, 1, 1, 1, 0, 1, 1, 1, 1, 1, 1] → Ev E ad' k8_2 p l e Rm s m args below meth c (cells + 1 + 5) (slots + 9 + 159) Q 2 (set2 g2 0 1 3) 26 [some (.ref (ad' 0)), none] []) : Ev E ad k8_1 p l e Rm s m args below meth c cells slots Q 2 h 15 [some (.ref (ad 0)), none] [] := by
  refine r_aload_n (pc := 15) X dX8_init_15 rfl rfl ?_
  refine r_beach (pc := 16) X hS M1.2.2 E2 E3 mC_X8_16 mM_X8_18 (by omega) (by omega) ⟨by omega, by omega⟩ (Nat.le_of_ble_eq_true rfl) dX8_init_16 dX8_init_19 dX8_init_20 (fun a1 hd1 => ?_)
  refine Ev.sh te_1 ?_
  have h0 : a1 0 = ad 0 := hd1 0 (by decide +kernel)
  refine Ev.to (L2 := [some (.ref (a1 0)), none]) (S2 := [.ref (a1 3), .ref (a1 0)]) (by rw [h0]) (by rw [h0]; rfl) ?_
  have e0 : g2 0 = HX 0 c0i s0i k8_1 h 0 := by rw [weigh_0 (by decide +kernel) E3, clear_0 (by decide +kernel) E2]
  have MT : MK t8_1 g2 0 8 [3, 1, 1, 1, 1, 1, 0, 1, 1, 1, 1, 1, 1] := ((SX_keep (ci := 0) (cs := c0i) (st := s0i) M1 (i01_ok rfl)).to te_1 rfl).r0 (by decide +kernel) e0
  refine r_putR (pc := 23) (b := 0) (ci := 8) (k := 1) (q := 3) (D := RX0) (K := fun g => some g) (res := set2 g2 0 1 3) X MT.1 rfl mU_X8 (by decide) rfl rfl (by decide +kernel) mF_X8_19 dX8_init_23 (by omega) rfl (fun h2 hG => ?_)
  have eh : h2 = set2 g2 0 1 3 := Option.some.inj hG
  rw [eh]
  have ek : t8_1 = k8_2 := by decide +kernel
  refine Ev.sh ek ?_
  exact kk a1 h0 ((MT.ref (k := 1) (q := 3) (by decide +kernel) (by decide +kernel)).to ek rfl)
end X8B
