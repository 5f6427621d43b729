/-! THE CLAIM OUT OF ONE WALK OF THE LAW'S BODY. Your part is whole_start (and what it stands on); all else here is the same for every law, but numbers. -/
def R_law : String := "TideKeepLaw"
def lw_P (b : Addr) (xs : List Int32) (args : Array Value) (s : State) : Prop := args = #[.ref b] ∧ s.IntsAt b xs ∧ xs.length ≤ 3584 ∧ (Jvm.Cond.and given_1 narrow_1).before args s = true
def lw_Q (_ : Array Value) (s : State) (o : Outcome) (t : State) : Prop := o = .returned (some (.int 1)) ∧ Framed s o t [] 600000 7302250
def lw_Z (below : List Frame) (a : Array Value) (s : State) : State → Prop := fun t => ∃ o, t.status = .running ∧ Ended t below o ∧ lw_Q a s o t
/-- the law's own end, with 1 on the stack, nothing written that was there before, its room as the claim has it -/
theorem lw_ret {p : Program} {l : Launch} {e : Env} {s : State} {m : MethodId} {below : List Frame} {meth : Method} {c : Code} {b : Nat} (hx : p.tables.exec = Jvm.exec) (hb : c.code = code) (hr : meth.sig.returnType = ret) (hlocks : meth.locks = false) {pc : Nat} {H : Heap} {ls : Array Slot} (hdg : decode code pc = .ok (.ireturn, 1)) : W p l e room_1 s m #[Value.ref b] below meth c H [] 600000 7302250 (lw_Z below #[Value.ref b] s) (F0 m pc ls [.int 1]) := by
  intro T hT X
  obtain ⟨fs, hret, hrun, hended, hW, hframe⟩ := X.leave (v := some (.int 1)) (hlocks := hlocks) (fun h => by rw [hr] at h; cases h)
  have hmeth' : T.vm.method? m = some meth := X.method'
  refine ⟨T.setFrames fs, ?_, .returned (some (.int 1)), hrun, hended, rfl, ⟨_, rfl⟩, hW, hframe⟩
  jvm_step X.here [X.here.top, hx, hb, hdg, hmeth', hr, ret, narrow_b1]
  (try refine ⟨rfl, ?_⟩); (try refine ⟨rfl, ?_⟩)
  first | (intro acts; rw [hret _ acts rfl rfl rfl]) | rw [hret _ _ rfl rfl rfl]
  exact Steps.refl _
/-- what holds at the law's entry: the machine, the code, the tables' words (any of lw_tbl by 'hts w (by decide +kernel)'), the script of L ints xs at the cell b, what the Statement gives of the start (any of its parts by flat_of_before) -/
def lw_At (p : Program) (s : State) (m : MethodId) (meth : Method) (c : Code) (b L : Nat) (xs : Nat → Int32) : Prop :=
  p.tables.exec = Jvm.exec ∧ c.code = code ∧ meth.sig.returnType = ret ∧ c.maxLocals = 4 ∧ s.vm.findClass R_law = some m.cls ∧ (∀ w ∈ lw_tbl, w.before #[Value.ref b] s = true) ∧ va_X b L xs s s.heap ∧ b < s.heap.size ∧ meth.locks = false ∧ (Jvm.Cond.and given_1 narrow_1).before #[Value.ref b] s = true
theorem hdd_X8_init : yX8_init.cls ≠ "java/lang/invoke/MethodHandle" ∧ yX8_init.cls ≠ "java/lang/invoke/VarHandle" ∧ (parseMethodDescriptor yX8_init.desc).map (fun d => d.parameters.length) = some 0 := ⟨by decide +kernel, by decide +kernel, by decide +kernel⟩
theorem hdd_X9_init : yX9_init.cls ≠ "java/lang/invoke/MethodHandle" ∧ yX9_init.cls ≠ "java/lang/invoke/VarHandle" ∧ (parseMethodDescriptor yX9_init.desc).map (fun d => d.parameters.length) = some 0 := ⟨by decide +kernel, by decide +kernel, by decide +kernel⟩
theorem k9_at8 : At_X8 (k8_18 ++ m9_33) := ⟨by decide +kernel, by unfold At_X5; (repeat' apply And.intro) <;> decide +kernel, by decide +kernel, by unfold At_X3; (repeat' apply And.intro) <;> decide +kernel, by decide +kernel, by decide +kernel, by unfold At_X7; (repeat' apply And.intro) <;> decide +kernel, by unfold At_X6 At_X3; (repeat' apply And.intro) <;> decide +kernel, by unfold At_X4; (repeat' apply And.intro) <;> decide +kernel,
  fun q hq => by
    have : q = 3 ∨ q = 9 := by simpa using hq
    rcases this with rfl | rfl <;> (unfold At_X0; (repeat' apply And.intro) <;> decide +kernel),
  fun q hq => by
    have : q = 15 ∨ q = 20 := by simpa using hq
    rcases this with rfl | rfl <;> (unfold At_X2; (repeat' apply And.intro) <;> decide +kernel),
  fun j hj => by rcases (by omega : j = 0 ∨ j = 1 ∨ j = 2) with rfl | rfl | rfl <;> (unfold At_X1; (repeat' apply And.intro) <;> decide +kernel),
  fun j hj => by rcases (by omega : j = 0 ∨ j = 1 ∨ j = 2) with rfl | rfl | rfl <;> (unfold At_X3; (repeat' apply And.intro) <;> decide +kernel)⟩
set_option maxRecDepth 100000 in
set_option maxHeartbeats 8000000 in
theorem whole_start {p : Program} {e : Env} {s : State} {m : MethodId} {below : List Frame} {meth : Method} {c : Code} (l : Launch) (hflags : l.flags = flags0) {b L : Nat} {xs : Nat → Int32} (hL : L ≤ 3584) (C0 : lw_At p s m meth c b L xs) : W p l e room_1 s m #[Value.ref b] below meth c s.heap [] 0 0 (lw_Z below #[Value.ref b] s) (entryFrame m ([Value.ref b] : List Value).toArray 4) := by
  obtain ⟨hx, hb, hr, hml, hown, hts, hX, hbl, hlocks, hgv⟩ := id C0
  obtain ⟨E, hE, hKK⟩ := kk_start hts hgv
  have ho1 : va_AO RX1 s := va_AO.of (hts _ nw_o1)
  have ho3 : va_AO RX3 s := va_AO.of (hts _ nw_o3)
  have X : Cx E p s m #[Value.ref b] meth c cL_law RL 4 ret := ⟨hx, hb, hml, hown, fun w hw => hts w (gw_tbl hw), hr, hlocks, hKK⟩
  have hsz : E.1 ≤ s.heap.size := by rw [hE]; exact Nat.le_refl _
  have hbA : ¬ bsA E b := by
    show ¬ E.1 ≤ b
    rw [hE]
    exact Nat.not_le.mpr hbl
  have hl := lv_entry ([.ref b]) (n := 4) (Nat.le_of_ble_eq_true rfl)
  rw [lg_entry_eq]
  generalize (lg_sl ([.ref b]) ++ List.replicate (4 - (lg_sl ([.ref b])).length) Slot.unset).toArray = ls at hl ⊢
  have hl' : lvh ls 4 [some (.ref b), none, none, none] := hl
  have hCW : CW E (fun _ => 0) [] (fun _ _ => 0) s.heap := ⟨fun k q h => by simp [wl_] at h, ⟨fun i j p q h => by simp [wl_] at h, fun k q h => by simp [wl_] at h⟩, fun _ _ => (show inR 0 from ⟨by decide, by decide⟩)⟩
  have cl0 : Cl [] (fun _ _ => (0 : Int)) := fun p s h => by simp at h
  have ev : Ev E (fun _ => 0) [] p l e room_1 s m #[Value.ref b] below meth c 0 0 (lw_Z below #[Value.ref b] s) 4 (fun _ _ => 0) 0 [some (.ref b), none, none, none] [] := by
    have fin : ∀ (ad : Nat → Nat) (h : Hp) (iv : Int32), Ev E ad (k8_18 ++ m9_33) p l e room_1 s m #[Value.ref b] below meth c 600000 7302250 (lw_Z below #[Value.ref b] s) 4 h 1400 (LL b ad iv) [] := by
      intro ad h iv H locs ls hc hs hl
      refine lv_iconst (v := 1) hx hb dL_law_1400 (by decide) ?_
      refine va_forget (fun q hq => ?_) (lw_ret hx hb hr hlocks dL_law_1401)
      have := hs.2.2 q hq
      rw [← hE]
      exact this
    refine r_newO (pc := 0) (ci := 8) (cs := [1, 1, 1, 1, 1, 1, 0, 1, 1, 1, 1, 1, 1]) (N := 13) (C := RX8) (T := TX8) X cl0 rfl mU_X8 tyX8 tyX8_ok mC_L_7 mB_X8 mN_X8 rfl (by decide) (by decide) (Nat.le_of_ble_eq_true rfl) (Nat.le_of_ble_eq_true rfl) hsz dL_law_0 (fun q0 => ?_)
    refine r_dup (pc := 3) X dL_law_3 rfl ?_
    have M0 : MK k8_0 (nH (fun _ _ => 0) 0 [1, 1, 1, 1, 1, 1, 0, 1, 1, 1, 1, 1, 1]) 0 8 [1, 1, 1, 1, 1, 1, 0, 1, 1, 1, 1, 1, 1] := MK.new cl0 (i01_ok rfl)
    have e0 : upA (fun _ => 0) 0 q0 0 = q0 := upA_same
    show Ev E (upA (fun _ => 0) 0 q0) k8_0 p l e room_1 s m #[Value.ref b] below meth c (0 + 1) (0 + 13) (lw_Z below #[Value.ref b] s) 4 (nH (fun _ _ => 0) 0 [1, 1, 1, 1, 1, 1, 0, 1, 1, 1, 1, 1, 1]) 4 [some (.ref b), none, none, none] [.ref q0, .ref q0]
    generalize upA (fun _ => 0) 0 q0 = a1 at e0 ⊢
    refine Ev.to (L2 := [some (.ref b), none, none, none]) (S2 := [.ref (a1 0), .ref (a1 0)]) rfl (by rw [e0]) ?_
    obtain ⟨g, F, hM⟩ := c_X8_init (E := E) (ad := a1) (l := l) M0
    refine r_cG (S := [.ref (a1 0)]) (a := #[.ref (a1 0)]) (mc := 200) (ms := 9000) (n := 1) (shl' := k8_18) (h' := g) (runIX (pc := 4) X hsz ho1 ho3 dL_law_4 hM mM_L_9 mI_X8_init mN_X8 mK_X8_init rfl rfl rfl hdd_X8_init ⟨Nat.le_of_ble_eq_true rfl, Nat.le_of_ble_eq_true rfl⟩ (Nat.le_of_ble_eq_true rfl) ⟨Nat.le_of_ble_eq_true rfl, Nat.le_of_ble_eq_true rfl⟩) (fun a2 had2 => ?_)
    have e2 : a2 0 = a1 0 := had2 0 (by omega)
    refine Ev.to (L2 := [some (.ref b), none, none, none]) (S2 := [.ref (a2 0)]) rfl (by rw [e2]) ?_
    refine r_astore_n (pc := 7) (L' := [some (.ref b), some (.ref (a2 0)), none, none]) X dL_law_7 rfl (by decide) rfl rfl ?_
    have cl1 : Cl k8_18 g := cl_18 ⟨F.1.1, F.1.2.1, F.1.2.2.1, F.1.2.2.2.1⟩
    refine r_newO (pc := 8) (ci := 9) (cs := cs9_0) (N := 62) (C := RX9) (T := TX9) X cl1 rfl mU_X9 tyX9 tyX9_ok mC_L_10 mB_X9 mN_X9 rfl (by decide) (by decide) (Nat.le_of_ble_eq_true rfl) (Nat.le_of_ble_eq_true rfl) hsz dL_law_8 (fun q9 => ?_)
    refine r_dup (pc := 11) X dL_law_11 rfl ?_
    have M9 : MK (k8_18 ++ m9_0) (nH g 100 cs9_0) 100 9 cs9_0 := MK.new cl1 (i01_ok rfl)
    have e9 : upA a2 100 q9 100 = q9 := upA_same
    have e90 : upA a2 100 q9 0 = a2 0 := upA_ne (by decide)
    show Ev E (upA a2 100 q9) (k8_18 ++ m9_0) p l e room_1 s m #[Value.ref b] below meth c (0 + 1 + 200 + 1) (0 + 13 + 9000 + 62) (lw_Z below #[Value.ref b] s) 4 (nH g 100 cs9_0) 12 [some (.ref b), some (.ref (a2 0)), none, none] [.ref q9, .ref q9]
    generalize upA a2 100 q9 = a3 at e9 e90 ⊢
    refine Ev.to (L2 := [some (.ref b), some (.ref (a3 0)), none, none]) (S2 := [.ref (a3 100), .ref (a3 100)]) (by rw [e90]) (by rw [e9]) ?_
    obtain ⟨z, hz, R0⟩ := rel_0 F (nH_at (by decide))
    have hM9 := c_X9_init (E := E) (ad := a3) (l := l) (pre := k8_18) (g := z) rfl M9 hz
    refine r_cG (S := [.ref (a3 100)]) (a := #[.ref (a3 100)]) (mc := 33) (ms := 3648) (n := 101) (shl' := k8_18 ++ m9_33) (h' := z) (runIG (pc := 12) X hsz dL_law_12 hM9 mM_L_12 mI_X9_init mN_X9 mK_X9_init rfl rfl rfl hdd_X9_init ⟨Nat.le_of_ble_eq_true rfl, Nat.le_of_ble_eq_true rfl⟩ (Nat.le_of_ble_eq_true rfl) ⟨Nat.le_of_ble_eq_true rfl, Nat.le_of_ble_eq_true rfl⟩) (fun a4 had4 => ?_)
    have e4 : a4 0 = a3 0 := had4 0 (by omega)
    have e4b : a4 100 = a3 100 := had4 100 (by omega)
    refine Ev.to (L2 := [some (.ref b), some (.ref (a4 0)), none, none]) (S2 := [.ref (a4 100)]) (by rw [e4]) (by rw [e4b]) ?_
    refine r_astore_n (pc := 15) (L' := [some (.ref b), some (.ref (a4 0)), some (.ref (a4 100)), none]) X dL_law_15 rfl (by decide) rfl rfl ?_
    refine r_icw (pc := 16) X dL_law_16 ?_
    refine r_istore_n (pc := 17) (L' := LL b a4 (Int32.ofInt 0)) X dL_law_17 rfl (by decide) rfl rfl ?_
    refine Ev.widen (k := 600000) (n := 7302250) (Nat.le_of_ble_eq_true rfl) (Nat.le_of_ble_eq_true rfl) ?_
    exact law_loop X k9_at8 (at9_pre rfl) hX hbl hbA hL (fin a4) 513 0 (Int32.ofInt 0) z (by decide) (by omega) R0
  exact ev s.heap [] ls hCW va_S.rf hl'
-- ===== YOUR PART ENDS =====
set_option maxHeartbeats 4000000 in
theorem lw_walk (l : Launch) (hflags : l.flags = flags0) (b : Addr) (xs : List Int32) : MetFree l x (headSpec (Jvm.Cond.code x code maxLocals ret :: tables_1) room_1) (lw_P b xs) (fun _ _ _ _ _ => True) lw_Q := by
  refine MetFree.of_bodyS (code := code) (maxLocals := maxLocals) (ret := ret) (by decide) ?_ ?_
  · intro args s m h hn
    obtain ⟨meth, c, h1, h2, h3, h4, h5, h6, -, -⟩ := Cond.code_spec hn (atoms_spec (ws := Jvm.Cond.code x code maxLocals ret :: tables_1) h _ List.mem_cons_self)
    exact ⟨meth, c, h1, h2, h3, h4, h5, h6⟩
  · intro p e s m args below meth c s₁ B hml0 hP _
    obtain ⟨rfl, hx, hbd, hgv⟩ := hP
    obtain ⟨scr, harrAt, hlist, hof, hsmall⟩ := hx
    obtain ⟨hcb, hkn, -, -⟩ := State.arrayAt?_spec harrAt
    have hown : s.vm.findClass R_law = some m.cls := findClass_of_methodNamed B.named
    have hts0 : ∀ c ∈ (Jvm.Cond.code x code maxLocals ret :: tables_1), c.before #[Value.ref b] s = true := atoms_spec (ws := Jvm.Cond.code x code maxLocals ret :: tables_1) B.pre
    have hts : ∀ w ∈ lw_tbl, w.before #[Value.ref b] s = true := k2_hts_sels lw_privs (fun w hw => hts0 w (List.mem_cons_of_mem _ hw)) lw_privs_ok
    have hml : c.maxLocals = 4 := B.maxLocals_eq (hts0 _ List.mem_cons_self)
    have X₀ : Stand p l e room_1 s m #[Value.ref b] below meth c s₁ [] 0 0 := Stand.of_body B
    have hh0 : s₁.heap = s.heap := by rw [B.state]; rfl
    have hsz : scr.slots.size = xs.length := by rw [← Array.length_toList, hlist, List.length_map]
    have hval : ∀ j : Nat, j < xs.length → scr.slots[j]? = some (.int (xs.getD j 0)) := fun j hj => by
      rw [← Array.getElem?_toList, hlist]
      simp [hj]
    have hbl : b < s.heap.size := (Array.getElem?_eq_some_iff.mp hcb).1
    have hX : va_X b xs.length (fun j => xs.getD j 0) s s.heap := ⟨scr, hcb, hof, hkn, hsz, hval⟩
    have K : W p l e room_1 s m #[Value.ref b] below meth c s₁.heap [] 0 0 (lw_Z below #[Value.ref b] s) (entryFrame m ([Value.ref b] : List Value).toArray 4) := by
      rw [hh0]
      exact whole_start l hflags hbd ⟨B.exec, B.bytes, B.returns, hml, hown, hts, hX, hbl, B.notSynchronized, hgv⟩
    obtain ⟨t, a1, o, b1, b2, b3⟩ := K s₁ rfl X₀
    exact ⟨t, o, a1, b1, b2, b3⟩
theorem lw_pre_spec {args : Array Value} {s : State} (h : (Jvm.Cond.and given_1 narrow_1).before args s = true) (hr : rest_1_c.before args s = true) : ∃ (b : Addr) (xs : List Int32), lw_P b xs args s := by
  have hs := flat_of_before _ h
  have hq := flat_of_before _ hr
  have hc : (Cond.count 1).before args s = true := hs _ (by decide +kernel)
  have harr : (Cond.arrayOf (.arg 0) .int).before args s = true := hs _ (by decide +kernel)
  have hle : (Cond.le (.length (.arg 0)) (.int 3584)).before args s = true := hs _ (by decide +kernel)
  have hlen : (Cond.isInt (.length (.arg 0))).before args s = true := hq _ (by decide +kernel)
  have hall : (Cond.all (.arg 0) (.isInt (.elem (.arg 0) (.index 0)))).before args s = true := hq _ (by decide +kernel)
  obtain ⟨b, xs, hb, hx⟩ := State.ints_of_pre rfl harr hlen hall
  have hsm : xs.length < 2 ^ 31 := hx.choose_spec.2.2.2
  have hev : (Term.length (.arg 0)).eval args s none [] s = some (.int xs.length.toInt32) := hx.length_eval hb
  have hv := Cond.le_ints hev (show (Term.int 3584).eval args s none [] s = some (.int 3584) from rfl)
  have hd : xs.length.toInt32 ≤ 3584 := by
    simpa [Cond.before, Cond.holds, hv] using hle
  have hN : xs.length ≤ 3584 := (Int32.ofNat_le_ofNat hsm (by decide)).mp (show Int32.ofNat xs.length ≤ Int32.ofNat 3584 from hd)
  exact ⟨b, xs, Cond.one_arg hc (show args[0]? = some (.ref b) from hb), hx, hN, h⟩
theorem lw_comes (l : Launch) (hflags : l.flags = flags0) : Comes l x (Jvm.Cond.code x code maxLocals ret :: tables_1) room_1 (fun tb e args s => Calls_1 tb e args s ∧ rest_1 tb e args s ∧ Pre_1 tb e args s)
    (fun _ _ args s o t => lw_Q args s o t) := by
  intro p e ha hc hk s m args below hf hfit hheap happ hpre
  obtain ⟨b, xs, hP⟩ := lw_pre_spec hpre.2.2 hpre.2.1
  obtain ⟨k, o, h1, h2, h3, hQ⟩ := lw_walk l hflags b xs p e ha hc hk s m args below hf ((Spec.applies_iff_loose hf).mp happ).1 hP trivial
  exact ⟨k, o, h1, h2, h3, hQ⟩
theorem lw_frame {s t : State} {o : Outcome} {args : Array Value} (h : Framed s o t [] 600000 7302250) :
    Framed s o t (fieldLocs frame_1_writes args s ++ arrayLocs frame_1_arrays args s ++ staticLocs frame_1_statics s) 600000 7302250 := h
theorem lw_limb (L : Cond) (hL : ∀ (args : Array Value) (s t : State), L.after args s (.returned (some (.int 1))) t = true) :
    ArmFor flags0 classFile x code maxLocals ret World_1 tables_1 room_1 Calls_1 rest_1 Pre_1
      (fun tb e a s o t => postC L tb e a s o t ∧ Framed s o t (fieldLocs frame_1_writes a s ++ arrayLocs frame_1_arrays a s ++ staticLocs frame_1_statics s) 600000 7302250) := by
  intro l hflags _ _ p e ha hc hk s m args below hf hfit hheap happ hpre
  obtain ⟨k, o, h1, h2, h3, rfl, hF⟩ := lw_comes l hflags p e ha hc hk s m args below hf hfit hheap happ hpre
  exact ⟨k, _, h1, h2, h3, hL args s _, lw_frame hF⟩
theorem i_vc : Claimed_1_1 ∧ Claimed_1_2 := ⟨lw_limb limb_1_1 (fun args s t => by simp [limb_1_1, Cond.after, Cond.holds, Cond.value]), lw_limb limb_1_2 (fun args s t => Cond.after_iff.mpr (by
  first | (rw [show limb_1_2 = Cond.eq .result (.int 1) from rfl, Cond.eq_ints (x := 1) (y := 1) rfl rfl]; simp; done) | (simp [limb_1_2, Cond.value, Term.eval]; done)))⟩
