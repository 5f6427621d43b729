/-! CONSTRUCTOR of TideKeep: the first steps, as a pattern -/
theorem nest_X8_9 : (RX8, 9, yX5_init, "TideKeep") ∈ nestL := by decide +kernel
section X8A
variable {E : EnvT} {ad : Nat → Nat} {p : Program} {l : Launch} {e : Env} {Rm : Room} {s : State} {m : MethodId} {args : Array Value} {below : List Frame} {meth : Method} {c : Code} {Q : State → Prop} {h hA g1 g2 : Hp}
set_option maxRecDepth 100000 in
set_option maxHeartbeats 4000000 in
/-- pc 4 to 26: the tape and the first beach -/
theorem x8_a {cells slots : Nat} (X : Cx E p s m args meth c cX8_init RX8 2 none) (hnm : meth.name = "<init>") (hS : E.1 ≤ s.heap.size) (M0 : MK k8_0 h 0 8 [1, 1, 1, 1, 1, 1, 0, 1, 1, 1, 1, 1, 1]) (hfr : 6 ≤ Rm.frames ∧ 200 ≤ Rm.locals) (hce : cells + 100 ≤ Rm.cells) (hsl : slots + 5000 ≤ Rm.slots)
    (E1 : hA = set2 (HX 5 c5i s5i k8_0 h) k8_0.length 7 (-1))
    (kk : ∀ ad', ad' 0 = ad 0 → MK k8_1 hA 0 8 [3, 1, 1, 1, 1, 1, 0, 1, 1, 1, 1, 1, 1] → Ev E ad' k8_1 p l e Rm s m args below meth c (cells + 1 + 1) (slots + 8 + 900) Q 2 hA 15 [some (.ref (ad' 0)), none] []) : Ev E ad k8_0 p l e Rm s m args below meth c cells slots Q 2 h 4 [some (.ref (ad 0)), none] [] := by
  refine r_aload_n (pc := 4) X dX8_init_4 rfl rfl ?_
  refine r_tape (pc := 5) (host := "TideKeep") X hS M0.2.2 mC_X8_7 nest_X8_9 (by omega) (by omega) ⟨by omega, by omega⟩ (Nat.le_of_ble_eq_true rfl) dX8_init_5 dX8_init_8 dX8_init_9 (fun a1 hd1 => ?_)
  refine Ev.sh te_0 ?_
  rw [← E1]
  have h0 : a1 0 = ad 0 := hd1 0 (by decide +kernel)
  refine Ev.to (L2 := [some (.ref (a1 0)), none]) (S2 := [.ref (a1 1), .ref (a1 0)]) (by rw [h0]) (by rw [h0]; rfl) ?_
  have MT : MK t8_0 hA 0 8 [1, 1, 1, 1, 1, 1, 0, 1, 1, 1, 1, 1, 1] := ((SX_keep (ci := 5) (cs := c5i) (st := s5i) M0 (i01_ok rfl)).to te_0 rfl).r0 (by decide +kernel) (by rw [E1]; exact set2_ne 0 (by decide +kernel))
  refine r_putFin (pc := 12) (b := 0) (ci := 8) (k := 0) (q := 1) (ty := .object "TideKeep$Tape") X hnm MT.1 rfl mU_X8 (by decide) (by decide) rfl rfl (by decide +kernel) rfl rfl mF_X8_10 dX8_init_12 ?_
  have ek : t8_0.set 0 (.inl (8, [1, 1, 1, 1, 1, 1, 0, 1, 1, 1, 1, 1, 1].set 0 (1 + 2))) = k8_1 := by decide +kernel
  refine Ev.sh ek ?_
  exact kk a1 h0 ((MT.fin (k := 0) (q := 1) (by decide +kernel)).to ek rfl)
end X8A
