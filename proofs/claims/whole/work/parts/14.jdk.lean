/-! LOOPS, and the JDK's own methods: fill, String.length, charAt; planOrNull -/
theorem loopF_val {σ R : Type} {body : (σ → Option R) → σ → Option R} (Inv : σ → Prop) (μ : σ → Nat) (val : σ → Option R)
    (step : ∀ (self : σ → Option R) (s : σ), Inv s → (∀ s', Inv s' → μ s' < μ s → self s' = val s') → body self s = val s) : ∀ (n : Nat) (s : σ), Inv s → μ s < n → loopF body n s = val s
  | 0, s, _, h => by omega
  | n + 1, s, hi, h => by
    show body (loopF body n) s = val s
    exact step _ s hi (fun s' hi' hm => loopF_val Inv μ val step n s' hi' (by omega))
/-- a loop that counts: its states are st 0, st 1 .. st N, and it leaves at st N -/
theorem loopF_for {σ R : Type} {body : (σ → Option R) → σ → Option R} (N : Nat) (st : Nat → σ) (out : Option R) (hs : ∀ (i : Nat), i < N → ∀ self : σ → Option R, body self (st i) = self (st (i + 1))) (ho : ∀ self : σ → Option R, body self (st N) = out) :
    ∀ (n i : Nat), i ≤ N → N - i < n → loopF body n (st i) = out
  | 0, i, _, h => by omega
  | n + 1, i, hi, h => by
    show body (loopF body n) (st i) = out
    by_cases q : i = N
    · subst q; exact ho _
    · rw [hs i (by omega)]
      exact loopF_for N st out hs ho n (i + 1) (by omega) (by omega)
section JDK
variable {E : EnvT} {ad : Nat → Nat} {shl : List Shp} {p : Program} {l : Launch} {e : Env} {Rm : Room} {s : State} {m : MethodId} {args : Array Value} {below : List Frame} {meth : Method} {c : Code} {cells slots : Nat} {Q : State → Prop} {nL : Nat} {cc : ByteArray} {own : String} {ret : Option FieldType} {h : Hp} {pc : Nat} {L : List (Option Value)} {S : List Value} {R : Type} {res : R}
-- fill
def gg_fill (q n : Nat) (x : Int) (h : Hp) : Option Hp :=
  cI 0 fun z1 => cI (n : Int) fun z2 => joinF (fun (a : Hp) => some a) fun j =>
  loopF (fun (l : Int × Hp → Option Hp) (q6 : Int × Hp) => if z2 ≤ q6.1 then j q6.2 else wrI q6.2 q n q6.1 x fun h9 => addI q6.1 1 fun z => l (z, h9)) FU (z1, h)
theorem gg_fill_eq (q n : Nat) (x : Int) (h : Hp) (hn : n ≤ 1000) : gg_fill q n x h = g_J7_fill_53178 q n x h := by
  unfold gg_fill g_J7_fill_53178
  simp only [cI, joinF]
  have key := loopF_for (R := Hp) (body := fun (l : Int × Hp → Option Hp) (q6 : Int × Hp) => if (n : Int) ≤ q6.1 then some q6.2 else wrI q6.2 q n q6.1 x fun h9 => addI q6.1 1 fun z => l (z, h9)) n
    (fun i => ((i : Int), fun p j => if p = q ∧ j < i then x else h p j)) (some (fun p j => if p = q ∧ j < n then x else h p j)) ?_ ?_ FU 0 (Nat.zero_le _) (by unfold FU; omega)
  · rw [← key]
    congr 1
    refine Prod.ext rfl ?_
    funext p j
    simp
  · intro i hi self
    simp only []
    rw [if_neg (by omega)]
    simp only [wrI, addI]
    rw [if_pos ⟨by omega, by omega⟩, wr_eq (by omega)]
    congr 1
    refine Prod.ext rfl ?_
    funext p j
    simp only [set2, Int.toNat_natCast]
    by_cases hp : p = q
    · by_cases hj : j = i
      · simp [hp, hj]
      · by_cases hj2 : j < i
        · simp [hp, hj, hj2, show j < i + 1 by omega]
        · simp [hp, hj, hj2, show ¬ j < i + 1 by omega]
    · simp [hp]
  · intro self
    simp
abbrev rm_J7_fill_53178 : Room := { frames := 0, cells := 0, slots := 0, locals := 0 }
theorem hdd_J7_fill_53178 : yJ7_fill_53178.cls ≠ "java/lang/invoke/MethodHandle" ∧ yJ7_fill_53178.cls ≠ "java/lang/invoke/VarHandle" ∧ (parseMethodDescriptor yJ7_fill_53178.desc).map (fun d => d.parameters.length) = some 2 := ⟨by decide +kernel, by decide +kernel, by decide +kernel⟩
theorem nlen {n : Nat} (hn : n ≤ 1000) : (Int32.ofNat n).toInt = (n : Int) := nI_toInt (by omega)
theorem w_J7_fill_53178 {q n : Nat} {rs : List Nat} {x1 : Int32} {r : Hp} (hq : shl[q]? = some (.inr (0, n, rs))) (hn : n ≤ 1000) (X : Cx E p s m args meth c cJ7_fill_53178 RJ7 4 none) (hQ : Q = MQ below (QcV E ad shl r) args s 0 0 (bsA E)) (hG : gg_fill q n x1.toInt h = some r) : Ev E ad shl p l e rm_J7_fill_53178 s m args below meth c 0 0 Q 4 h 0 [some (.ref (ad q)), some (.int x1), none, none] [] := by
  unfold gg_fill at hG
  refine r_iconst (pc := 0) X dJ7_fill_53178_0 hG rfl (fun z1 hG => ?_)
  refine r_istore_n (pc := 1) (L' := [some (.ref (ad q)), some (.int x1), some (.int z1), none]) X dJ7_fill_53178_1 rfl (by decide) rfl rfl ?_
  refine r_aload_n (pc := 2) X dJ7_fill_53178_2 rfl rfl ?_
  refine r_alen (pc := 3) X hq (by decide) dJ7_fill_53178_3 (nlen hn) hG (fun z2 hG => ?_)
  refine r_istore_n (pc := 4) (L' := [some (.ref (ad q)), some (.int x1), some (.int z1), some (.int z2)]) X dJ7_fill_53178_4 rfl (by decide) rfl rfl ?_
  refine r_join hG (fun a => Ev E ad shl p l e rm_J7_fill_53178 s m args below meth c 0 0 Q 4 a 20 [none, none, none, none] []) (fun a hG => ?_) (fun j Hj hG => ?_)
  · exact r_vret (pc := 20) X dJ7_fill_53178_20 hQ hG
  refine r_loop (fun q6 => ∀ (y1 : Int32) (h7 : Hp), q6 = (y1.toInt, h7) → Ev E ad shl p l e rm_J7_fill_53178 s m args below meth c 0 0 Q 4 h7 5 [some (.ref (ad q)), some (.int x1), some (.int y1), some (.int z2)] []) (fun l7 Hl7 q6 hG => ?_) FU _ hG z1 h rfl
  intro y1 h7 ha; subst ha
  refine r_iload_n (pc := 5) X dJ7_fill_53178_5 rfl rfl ?_
  refine r_iload_n (pc := 6) X dJ7_fill_53178_6 rfl rfl ?_
  refine r_icmp_ge (pc := 7) X dJ7_fill_53178_7 (tgt := 20) (by decide) hG (fun hG => ?_) (fun hG => ?_)
  · exact r_mask [false, false, false, false] rfl (Hj _ hG)
  refine r_aload_n (pc := 10) X dJ7_fill_53178_10 rfl rfl ?_
  refine r_iload_n (pc := 11) X dJ7_fill_53178_11 rfl rfl ?_
  refine r_iload_n (pc := 12) X dJ7_fill_53178_12 rfl rfl ?_
  refine r_iast (pc := 13) X hq dJ7_fill_53178_13 hG (fun h9 hG => ?_)
  refine r_iinc (pc := 14) (L' := fun z => [some (.ref (ad q)), some (.int x1), some (.int z), some (.int z2)]) X dJ7_fill_53178_14 (by decide) rfl rfl (by decide) (fun _ => rfl) hG (fun z hG => ?_)
  refine r_goto (pc := 17) X dJ7_fill_53178_17 (tgt := 5) (by decide) ?_
  exact Hl7 _ hG z h9 rfl
theorem c_J7_fill_53178 {q n : Nat} {rs : List Nat} {x1 : Int32} {r : Hp} (hq : shl[q]? = some (.inr (0, n, rs))) (hn : n ≤ 1000) (hg : g_J7_fill_53178 q n x1.toInt h = some r) : Met l yJ7_fill_53178 (wsM yJ7_fill_53178 cJ7_fill_53178 4 none) rm_J7_fill_53178 (va_Pc [.ref (ad q), .int x1] (World E ad shl h)) (QcV E ad shl r) 0 0 (bsA E) :=
  met_of (L0 := [some (.ref (ad q)), some (.int x1), none, none]) rfl rfl rfl (Nat.le_of_ble_eq_true rfl) (fun _ _ _ _ _ _ _ X => w_J7_fill_53178 hq hn X rfl (by rw [gg_fill_eq q n _ h hn]; exact hg))
-- strings
theorem r_sval (X : Cx E p s m args meth c cc own nL ret) {k : Nat} {q : String × Nat × String} (hq : strL[k]? = some q) (w : Cond.fieldLink own 9 "java/lang/String" "value" "[B" ∈ gw) (hd : decode cc pc = .ok (.getfield 9, 3)) (kk : Ev E ad shl p l e Rm s m args below meth c cells slots Q nL h (pc + 3) L (.ref (E.2.2.2.2.2 k) :: S)) : Ev E ad shl p l e Rm s m args below meth c cells slots Q nL h pc L (.ref (E.2.2.2.2.1 k) :: S) :=
  fun H locs ls hc hs hl => vk_getf X.1 X.2.1 (X.2.2.2.2.2.2.2.2.2.1 k q hq).2.2.2.1 hs X.2.2.2.1 (X.2.2.2.2.1 _ w) (fun _ h => h) hd (kk H locs ls hc hs hl)
theorem r_scod (X : Cx E p s m args meth c cc own nL ret) {k : Nat} {q : String × Nat × String} (hq : strL[k]? = some q) (w : Cond.fieldLink own 15 "java/lang/String" "coder" "B" ∈ gw) (hd : decode cc pc = .ok (.getfield 15, 3)) (kk : Ev E ad shl p l e Rm s m args below meth c cells slots Q nL h (pc + 3) L (.int 0 :: S)) : Ev E ad shl p l e Rm s m args below meth c cells slots Q nL h pc L (.ref (E.2.2.2.2.1 k) :: S) :=
  fun H locs ls hc hs hl => vk_getf X.1 X.2.1 (X.2.2.2.2.2.2.2.2.2.1 k q hq).2.2.1 hs X.2.2.2.1 (X.2.2.2.2.1 _ w) (fun _ h => h) hd (kk H locs ls hc hs hl)
theorem r_scomp (X : Cx E p s m args meth c cc own nL ret) (w : Cond.fieldLink own 38 "java/lang/String" "COMPACT_STRINGS" "Z" ∈ gw) (hd : decode cc pc = .ok (.getstatic 38, 3)) (kk : Ev E ad shl p l e Rm s m args below meth c cells slots Q nL h (pc + 3) L (.int 1 :: S)) : Ev E ad shl p l e Rm s m args below meth c cells slots Q nL h pc L S :=
  fun H locs ls hc hs hl => va_gets X.1 X.2.1 X.2.2.2.2.2.2.2.2.2.2.2.1 hs X.2.2.2.1 (X.2.2.2.2.1 _ w) (fun _ h => h) hd (kk H locs ls hc hs hl)
theorem r_sfmt (X : Cx E p s m args meth c cc own nL ret) (w : Cond.fieldLink own 1053 "jdk/internal/util/Preconditions" "SIOOBE_FORMATTER" "Ljava/util/function/BiFunction;" ∈ gw) (hd : decode cc pc = .ok (.getstatic 1053, 3)) (kk : ∀ v : Value, (v = .null ∨ ∃ t, v = .ref t) → Ev E ad shl p l e Rm s m args below meth c cells slots Q nL h (pc + 3) L (v :: S)) : Ev E ad shl p l e Rm s m args below meth c cells slots Q nL h pc L S := by
  intro H locs ls hc hs hl
  rcases X.2.2.2.2.2.2.2.2.2.2.2.2 with hz | ⟨t, hz⟩
  · exact va_gets X.1 X.2.1 hz hs X.2.2.2.1 (X.2.2.2.2.1 _ w) (fun _ h => h) hd (kk _ (Or.inl rfl) H locs ls hc hs hl)
  · exact va_gets X.1 X.2.1 hz hs X.2.2.2.1 (X.2.2.2.2.1 _ w) (fun _ h => h) hd (kk _ (Or.inr ⟨t, rfl⟩) H locs ls hc hs hl)
theorem r_slen (X : Cx E p s m args meth c cc own nL ret) {k : Nat} {q : String × Nat × String} (hq : strL[k]? = some q) (hd : decode cc pc = .ok (.arraylength, 1)) (kk : Ev E ad shl p l e Rm s m args below meth c cells slots Q nL h (pc + 1) L (.int (Int32.ofNat (strC k).length) :: S)) : Ev E ad shl p l e Rm s m args below meth c cells slots Q nL h pc L (.ref (E.2.2.2.2.2 k) :: S) :=
  fun H locs ls hc hs hl => va_tlen X.1 X.2.1 (X.2.2.2.2.2.2.2.2.2.1 k q hq).2.2.2.2 hs rfl hd (kk H locs ls hc hs hl)
theorem r_sbald (X : Cx E p s m args meth c cc own nL ret) {k : Nat} {q : String × Nat × String} (hq : strL[k]? = some q) {i : Int32} (hi : vp_in i (strC k).length) (hd : decode cc pc = .ok (.baload, 1)) (kk : Ev E ad shl p l e Rm s m args below meth c cells slots Q nL h (pc + 1) L (.int (iI ((strC k).getD i.toInt.toNat 0)) :: S)) : Ev E ad shl p l e Rm s m args below meth c cells slots Q nL h pc L (.int i :: .ref (E.2.2.2.2.2 k) :: S) :=
  fun H locs ls hc hs hl => va_tb X.1 X.2.1 (X.2.2.2.2.2.2.2.2.2.1 k q hq).2.2.2.2 hs hi rfl hd (kk H locs ls hc hs hl)
theorem r_i2c (X : Cx E p s m args meth c cc own nL ret) {x v : Int32} (hd : decode cc pc = .ok (.i2c, 1)) (hv : (x.toUInt32 % 65536).toInt32 = v) (kk : Ev E ad shl p l e Rm s m args below meth c cells slots Q nL h (pc + 1) L (.int v :: S)) : Ev E ad shl p l e Rm s m args below meth c cells slots Q nL h pc L (.int x :: S) :=
  fun H locs ls hc hs hl => lv_i2c X.1 X.2.1 hd hv (kk H locs ls hc hs hl)
theorem r_tret {r : Int} {x : Int32} {ty : FieldType} (X : Cx E p s m args meth c cc own nL (some ty)) (hn : narrow ty (.int x) = .int x) (hd : decode cc pc = .ok (.ireturn, 1)) (hQ : Q = MQ below (QcI E ad shl r h) args s 0 0 (bsA E)) (hr : x.toInt = r) : Ev E ad shl p l e Rm s m args below meth c 0 0 Q nL h pc L [.int x] := by
  subst hQ
  exact fun H locs ls hc hs hl => W.zret X.1 X.2.1 X.2.2.2.2.2.1 hn (fun t ht hW => ⟨⟨x, (), rfl, hr, World.at X.2.2.2.2.2.2.2 hs hc ht hW⟩, hs.F ht⟩) hs.2.2 hd X.2.2.2.2.2.2.1
theorem r_cX {S0 : List Value} {a : Array Value} {r : Int} (hr : RunOK E ad shl p l e Rm s m args below meth c cells slots nL h pc L S0 S (QcI E ad shl r h a)) (kk : ∀ Z : Int32, Z.toInt = r → Ev E ad shl p l e Rm s m args below meth c cells slots Q nL h (pc + 3) L (.int Z :: S)) : Ev E ad shl p l e Rm s m args below meth c cells slots Q nL h pc L S0 := by
  intro H locs ls hc hs hl
  refine va_calli (hr H locs ls hc hs hl) hs (fun _ _ h => h) (fun _ h => h) (fun Z u t H1 locs1 ht hvm hw hB hz hk hS => ?_)
  refine kk Z hw H1 locs1 ls ?_ hS hl
  rw [← ht]; exact hB.2
theorem strC_len : ∀ {k : Nat} {q : String × Nat × String}, strL[k]? = some q → (strC k).length ≤ 100 ∧ ∀ j, j < (strC k).length → 0 ≤ (strC k).getD j 0 ∧ (strC k).getD j 0 < 128 := by
  have key : ∀ k, k < strL.length → (strC k).length ≤ 100 ∧ ∀ j, j < (strC k).length → 0 ≤ (strC k).getD j 0 ∧ (strC k).getD j 0 < 128 := by decide +kernel
  intro k q h
  exact key k (List.getElem?_eq_some_iff.mp h).1
abbrev rm_J0_coder : Room := { frames := 0, cells := 0, slots := 0, locals := 0 }
theorem hdd_J0_coder_7d493 : yJ0_coder_7d493.cls = RJ0 ∧ yJ0_coder_7d493.cls ≠ "java/lang/invoke/MethodHandle" ∧ yJ0_coder_7d493.cls ≠ "java/lang/invoke/VarHandle" ∧ (parseMethodDescriptor yJ0_coder_7d493.desc).map (fun d => d.parameters.length) = some 0 := ⟨rfl, by decide +kernel, by decide +kernel, by decide +kernel⟩
theorem hdd_J0_isLatin1_aae02 : yJ0_isLatin1_aae02.cls = RJ0 ∧ yJ0_isLatin1_aae02.cls ≠ "java/lang/invoke/MethodHandle" ∧ yJ0_isLatin1_aae02.cls ≠ "java/lang/invoke/VarHandle" ∧ (parseMethodDescriptor yJ0_isLatin1_aae02.desc).map (fun d => d.parameters.length) = some 0 := ⟨rfl, by decide +kernel, by decide +kernel, by decide +kernel⟩
theorem hdd_J0_length_8abf5 : yJ0_length_8abf5.cls = RJ0 ∧ yJ0_length_8abf5.cls ≠ "java/lang/invoke/MethodHandle" ∧ yJ0_length_8abf5.cls ≠ "java/lang/invoke/VarHandle" ∧ (parseMethodDescriptor yJ0_length_8abf5.desc).map (fun d => d.parameters.length) = some 0 := ⟨rfl, by decide +kernel, by decide +kernel, by decide +kernel⟩
theorem hdd_J0_charAt_5068e : yJ0_charAt_5068e.cls = RJ0 ∧ yJ0_charAt_5068e.cls ≠ "java/lang/invoke/MethodHandle" ∧ yJ0_charAt_5068e.cls ≠ "java/lang/invoke/VarHandle" ∧ (parseMethodDescriptor yJ0_charAt_5068e.desc).map (fun d => d.parameters.length) = some 1 := ⟨rfl, by decide +kernel, by decide +kernel, by decide +kernel⟩
theorem hdd_J1_charAt_3b067 : yJ1_charAt_3b067.cls ≠ "java/lang/invoke/MethodHandle" ∧ yJ1_charAt_3b067.cls ≠ "java/lang/invoke/VarHandle" ∧ (parseMethodDescriptor yJ1_charAt_3b067.desc).map (fun d => d.parameters.length) = some 2 := ⟨by decide +kernel, by decide +kernel, by decide +kernel⟩
theorem hdd_J0_checkIndex_df160 : yJ0_checkIndex_df160.cls ≠ "java/lang/invoke/MethodHandle" ∧ yJ0_checkIndex_df160.cls ≠ "java/lang/invoke/VarHandle" ∧ (parseMethodDescriptor yJ0_checkIndex_df160.desc).map (fun d => d.parameters.length) = some 2 := ⟨by decide +kernel, by decide +kernel, by decide +kernel⟩
theorem hdd_J3_checkIndex_8e157 : yJ3_checkIndex_8e157.cls ≠ "java/lang/invoke/MethodHandle" ∧ yJ3_checkIndex_8e157.cls ≠ "java/lang/invoke/VarHandle" ∧ (parseMethodDescriptor yJ3_checkIndex_8e157.desc).map (fun d => d.parameters.length) = some 3 := ⟨by decide +kernel, by decide +kernel, by decide +kernel⟩
theorem if_eq_n (X : Cx E p s m args meth c cc own nL ret) {x : Int32} {off : Int} (hd : decode cc pc = .ok (.ifCond .eq off, 3)) {tgt : Nat} (ht : (pc : Int) + off = (tgt : Int)) (hx : ¬ x = 0) (kk : Ev E ad shl p l e Rm s m args below meth c cells slots Q nL h (pc + 3) L S) : Ev E ad shl p l e Rm s m args below meth c cells slots Q nL h pc L (.int x :: S) :=
  fun H locs ls hc hs hl => lv_if_eq X.1 X.2.1 hd ht (fun q => absurd q hx) (fun _ => kk H locs ls hc hs hl)
theorem if_ne_n (X : Cx E p s m args meth c cc own nL ret) {x : Int32} {off : Int} (hd : decode cc pc = .ok (.ifCond .ne off, 3)) {tgt : Nat} (ht : (pc : Int) + off = (tgt : Int)) (hx : x = 0) (kk : Ev E ad shl p l e Rm s m args below meth c cells slots Q nL h (pc + 3) L S) : Ev E ad shl p l e Rm s m args below meth c cells slots Q nL h pc L (.int x :: S) :=
  fun H locs ls hc hs hl => lv_if_ne X.1 X.2.1 hd ht (fun q => absurd hx q) (fun _ => kk H locs ls hc hs hl)
theorem r_ic (X : Cx E p s m args meth c cc own nL ret) {n : Int} {v : Int32} (hd : decode cc pc = .ok (.iconst n, 1)) (hv : Int32.ofInt n = v) (kk : Ev E ad shl p l e Rm s m args below meth c cells slots Q nL h (pc + 1) L (.int v :: S)) : Ev E ad shl p l e Rm s m args below meth c cells slots Q nL h pc L S :=
  fun H locs ls hc hs hl => lv_iconst X.1 X.2.1 hd hv (kk H locs ls hc hs hl)
theorem c_J0_coder {k : Nat} {q : String × Nat × String} (hq : strL[k]? = some q) : Met l yJ0_coder_7d493 (wsM yJ0_coder_7d493 cJ0_coder_7d493 1 (some .byte)) rm_J0_coder (va_Pc [.ref (E.2.2.2.2.1 k)] (World E ad shl h)) (QcI E ad shl 0 h) 0 0 (bsA E) := by
  refine met_of (L0 := [some (.ref (E.2.2.2.2.1 k))]) rfl rfl rfl (Nat.le_of_ble_eq_true rfl) (fun p e s m below meth c X => ?_)
  refine r_scomp (pc := 0) X mF_J0_38 dJ0_coder_7d493_0 ?_
  refine if_eq_n (pc := 3) X dJ0_coder_7d493_3 (tgt := 13) (by decide) (by decide) ?_
  refine r_aload_n (pc := 6) X dJ0_coder_7d493_6 rfl rfl ?_
  refine r_scod (pc := 7) X hq mF_J0_15 dJ0_coder_7d493_7 ?_
  refine r_goto (pc := 10) X dJ0_coder_7d493_10 (tgt := 14) (by decide) ?_
  exact r_tret (pc := 14) X rfl dJ0_coder_7d493_14 rfl rfl
theorem c_J0_isLatin1 {k : Nat} {q : String × Nat × String} (hq : strL[k]? = some q) : Met l yJ0_isLatin1_aae02 (wsM yJ0_isLatin1_aae02 cJ0_isLatin1_aae02 1 (some .boolean)) rm_J0_coder (va_Pc [.ref (E.2.2.2.2.1 k)] (World E ad shl h)) (QcI E ad shl 1 h) 0 0 (bsA E) := by
  refine met_of (L0 := [some (.ref (E.2.2.2.2.1 k))]) rfl rfl rfl (Nat.le_of_ble_eq_true rfl) (fun p e s m below meth c X => ?_)
  refine r_scomp (pc := 0) X mF_J0_38 dJ0_isLatin1_aae02_0 ?_
  refine if_eq_n (pc := 3) X dJ0_isLatin1_aae02_3 (tgt := 17) (by decide) (by decide) ?_
  refine r_aload_n (pc := 6) X dJ0_isLatin1_aae02_6 rfl rfl ?_
  refine r_scod (pc := 7) X hq mF_J0_15 dJ0_isLatin1_aae02_7 ?_
  refine if_ne_n (pc := 10) X dJ0_isLatin1_aae02_10 (tgt := 17) (by decide) rfl ?_
  refine r_ic (pc := 13) X dJ0_isLatin1_aae02_13 (v := 1) rfl ?_
  refine r_goto (pc := 14) X dJ0_isLatin1_aae02_14 (tgt := 18) (by decide) ?_
  exact r_tret (pc := 18) X rfl dJ0_isLatin1_aae02_18 rfl rfl
abbrev rm_J0_length_8abf5 : Room := { frames := 1, cells := 0, slots := 0, locals := 20 }
theorem rStr0 (X : Cx E p s m args meth c cc own nL ret) {y : MethodName} {bytes : ByteArray} {maxL idx k : Nat} {rt : Option FieldType} {rm : Room} {q : String × Nat × String} {r : Int} (hd : decode cc pc = .ok (.invokevirtual idx, 3)) (hq : strL[k]? = some q)
    (hM : Met l y (wsM y bytes maxL rt) rm (va_Pc [.ref (E.2.2.2.2.1 k)] (World E ad shl h)) (QcI E ad shl r h) 0 0 (bsA E)) (w1 : Cond.methodLink own idx y ∈ gw) (w2 : Cond.instanceMethod y ∈ gw) (w3 : Cond.selects RJ0 y y ∈ gw) (w5 : Cond.code y bytes maxL rt ∈ gw) (hrc : rm.cells = 0) (hrs : rm.slots = 0)
    (hdd : y.cls = RJ0 ∧ y.cls ≠ "java/lang/invoke/MethodHandle" ∧ y.cls ≠ "java/lang/invoke/VarHandle" ∧ (parseMethodDescriptor y.desc).map (fun d => d.parameters.length) = some 0) (hR : rm.frames + 1 ≤ Rm.frames ∧ 8 + (maxL + 11) + rm.locals ≤ Rm.locals) (hW : (S.map fun v => v.category).sum ≤ 8) (hce : cells ≤ Rm.cells ∧ slots ≤ Rm.slots)
    (kk : ∀ Z : Int32, Z.toInt = r → Ev E ad shl p l e Rm s m args below meth c cells slots Q nL h (pc + 3) L (.int Z :: S)) : Ev E ad shl p l e Rm s m args below meth c cells slots Q nL h pc L (.ref (E.2.2.2.2.1 k) :: S) :=
  r_cX (runStr X hd hq hM w1 w2 w3 w5 hrc hrs hdd hR rfl rfl hW hce) kk
theorem c_J0_length_8abf5 {k : Nat} {q : String × Nat × String} {r : Int} (hq : strL[k]? = some q) (hg : sLen (strC k) = some r) : Met l yJ0_length_8abf5 (wsM yJ0_length_8abf5 cJ0_length_8abf5 1 (some .int)) rm_J0_length_8abf5 (va_Pc [.ref (E.2.2.2.2.1 k)] (World E ad shl h)) (QcI E ad shl r h) 0 0 (bsA E) := by
  cases hg
  refine met_of (L0 := [some (.ref (E.2.2.2.2.1 k))]) rfl rfl rfl (Nat.le_of_ble_eq_true rfl) (fun p e s m below meth c X => ?_)
  have hlen := (strC_len hq).1
  refine r_aload_n (pc := 0) X dJ0_length_8abf5_0 rfl rfl ?_
  refine r_sval (pc := 1) X hq mF_J0_9 dJ0_length_8abf5_1 ?_
  refine r_slen (pc := 4) X hq dJ0_length_8abf5_4 ?_
  refine r_aload_n (pc := 5) X dJ0_length_8abf5_5 rfl rfl ?_
  refine rStr0 (pc := 6) X dJ0_length_8abf5_6 hq (c_J0_coder hq) mM_J0_335 mI_J0_coder_7d493 mE_J0_coder_7d493 mK_J0_coder_7d493 rfl rfl hdd_J0_coder_7d493 ⟨Nat.le_of_ble_eq_true rfl, Nat.le_of_ble_eq_true rfl⟩ (Nat.le_of_ble_eq_true rfl) ⟨Nat.le_of_ble_eq_true rfl, Nat.le_of_ble_eq_true rfl⟩ (fun Z hZ => ?_)
  have hz : Z = 0 := Int32.toInt_inj.mp hZ
  subst hz
  refine (fun kk H locs ls hc hs hl => lv_ishr X.1 X.2.1 dJ0_length_8abf5_9 (kk H locs ls hc hs hl) : Ev E ad shl p l e rm_J0_length_8abf5 s m _ below meth c 0 0 _ 1 h 10 _ [.int (Int32.ofNat (strC k).length >>> ((0 : Int32) &&& 31))] → Ev E ad shl p l e rm_J0_length_8abf5 s m _ below meth c 0 0 _ 1 h 9 _ [.int 0, .int (Int32.ofNat (strC k).length)]) ?_
  have e0 : Int32.ofNat (strC k).length >>> ((0 : Int32) &&& 31) = Int32.ofNat (strC k).length := by rw [show ((0 : Int32) &&& 31) = 0 from rfl]; simp
  rw [e0]
  exact r_tret (pc := 10) X rfl dJ0_length_8abf5_10 rfl (nlen (by omega))
-- charAt
abbrev rm_J3_checkIndex : Room := { frames := 0, cells := 0, slots := 0, locals := 0 }
abbrev rm_J0_checkIndex : Room := { frames := 1, cells := 0, slots := 0, locals := 22 }
abbrev rm_J1_charAt : Room := { frames := 2, cells := 0, slots := 0, locals := 43 }
abbrev rm_J0_charAt_5068e : Room := { frames := 3, cells := 0, slots := 0, locals := 64 }
theorem c_J3_checkIndex {x1 x2 : Int32} {v : Value} (hv : v = .null ∨ ∃ t, v = .ref t) (h1 : 0 ≤ x1.toInt) (h2 : x1.toInt < x2.toInt) : Met l yJ3_checkIndex_8e157 (wsM yJ3_checkIndex_8e157 cJ3_checkIndex_8e157 3 (some .int)) rm_J3_checkIndex (va_Pc [.int x1, .int x2, v] (World E ad shl h)) (QcI E ad shl x1.toInt h) 0 0 (bsA E) := by
  have key : ∀ v : Value, v.category = 1 → Met l yJ3_checkIndex_8e157 (wsM yJ3_checkIndex_8e157 cJ3_checkIndex_8e157 3 (some .int)) rm_J3_checkIndex (va_Pc [.int x1, .int x2, v] (World E ad shl h)) (QcI E ad shl x1.toInt h) 0 0 (bsA E) := by
    intro v hc
    refine met_of (L0 := [some (.int x1), some (.int x2), some v]) rfl rfl (by simp [lvp, lv_args, Value.category]) (by unfold lg_sl; simp only [List.flatMap_cons, List.flatMap_nil, hc]; exact Nat.le_of_ble_eq_true rfl) (fun p e s m below meth c X => ?_)
    refine r_iload_n (pc := 0) X dJ3_checkIndex_8e157_0 rfl rfl ?_
    refine (fun kk H locs ls hc hs hl => lv_if_lt X.1 X.2.1 dJ3_checkIndex_8e157_1 (tgt := 9) (by decide) (fun q => absurd ((tI_lt0 x1).mp q) (by omega)) (fun _ => kk H locs ls hc hs hl) : Ev E ad shl p l e rm_J3_checkIndex s m _ below meth c 0 0 _ 3 h 4 _ [] → Ev E ad shl p l e rm_J3_checkIndex s m _ below meth c 0 0 _ 3 h 1 _ [.int x1]) ?_
    refine r_iload_n (pc := 4) X dJ3_checkIndex_8e157_4 rfl rfl ?_
    refine r_iload_n (pc := 5) X dJ3_checkIndex_8e157_5 rfl rfl ?_
    refine (fun kk H locs ls hc hs hl => lv_icmp_lt X.1 X.2.1 dJ3_checkIndex_8e157_6 (tgt := 16) (by decide) (fun _ => kk H locs ls hc hs hl) (fun q => absurd ((tI_lt x1 x2).mpr h2) q) : Ev E ad shl p l e rm_J3_checkIndex s m _ below meth c 0 0 _ 3 h 16 _ [] → Ev E ad shl p l e rm_J3_checkIndex s m _ below meth c 0 0 _ 3 h 6 _ [.int x2, .int x1]) ?_
    refine r_iload_n (pc := 16) X dJ3_checkIndex_8e157_16 rfl rfl ?_
    exact r_tret (pc := 17) X rfl dJ3_checkIndex_8e157_17 rfl rfl
  rcases hv with rfl | ⟨t, rfl⟩
  · exact key _ rfl
  · exact key _ rfl
theorem c_J0_checkIndex {x1 x2 : Int32} (h1 : 0 ≤ x1.toInt) (h2 : x1.toInt < x2.toInt) : Met l yJ0_checkIndex_df160 (wsM yJ0_checkIndex_df160 cJ0_checkIndex_df160 2 none) rm_J0_checkIndex (va_Pc [.int x1, .int x2] (World E ad shl h)) (QcV E ad shl h) 0 0 (bsA E) := by
  refine met_of (L0 := [some (.int x1), some (.int x2)]) rfl rfl rfl (Nat.le_of_ble_eq_true rfl) (fun p e s m below meth c X => ?_)
  refine r_iload_n (pc := 0) X dJ0_checkIndex_df160_0 rfl rfl ?_
  refine r_iload_n (pc := 1) X dJ0_checkIndex_df160_1 rfl rfl ?_
  refine r_sfmt (pc := 2) X mF_J0_1053 dJ0_checkIndex_df160_2 (fun v hv => ?_)
  refine r_cX (pc := 5) (S := []) (runS X dJ0_checkIndex_df160_5 (c_J3_checkIndex hv h1 h2) mM_J0_1059 mS_J3_checkIndex_8e157 mN_J3 mK_J3_checkIndex_8e157 rfl rfl hdd_J3_checkIndex_8e157 ⟨Nat.le_of_ble_eq_true rfl, Nat.le_of_ble_eq_true rfl⟩ rfl rfl (Nat.le_of_ble_eq_true rfl) ⟨Nat.le_of_ble_eq_true rfl, Nat.le_of_ble_eq_true rfl⟩) (fun Z hZ => ?_)
  refine r_pop (pc := 8) X dJ0_checkIndex_df160_8 rfl ?_
  exact r_vret (pc := 9) X dJ0_checkIndex_df160_9 rfl rfl
theorem chr : ∀ n : Nat, n < 128 → (((nI n) &&& 255).toUInt32 % 65536).toInt32 = nI n ∧ narrow .char (.int (nI n)) = .int (nI n) := by decide +kernel
theorem c_J1_charAt {k : Nat} {q : String × Nat × String} {x1 : Int32} (hq : strL[k]? = some q) (h1 : 0 ≤ x1.toInt) (h2 : x1.toInt < (strC k).length) : Met l yJ1_charAt_3b067 (wsM yJ1_charAt_3b067 cJ1_charAt_3b067 2 (some .char)) rm_J1_charAt (va_Pc [.ref (E.2.2.2.2.2 k), .int x1] (World E ad shl h)) (QcI E ad shl ((strC k).getD x1.toInt.toNat 0) h) 0 0 (bsA E) := by
  refine met_of (L0 := [some (.ref (E.2.2.2.2.2 k)), some (.int x1)]) rfl rfl rfl (Nat.le_of_ble_eq_true rfl) (fun p e s m below meth c X => ?_)
  have hlen := (strC_len hq).1
  have hch := (strC_len hq).2 x1.toInt.toNat (by omega)
  generalize hcv : (strC k).getD x1.toInt.toNat 0 = cv at hch
  obtain ⟨n, hn⟩ : ∃ n : Nat, cv = (n : Int) := ⟨cv.toNat, by omega⟩
  subst hn
  refine r_iload_n (pc := 0) X dJ1_charAt_3b067_0 rfl rfl ?_
  refine r_aload_n (pc := 1) X dJ1_charAt_3b067_1 rfl rfl ?_
  refine r_slen (pc := 2) X hq dJ1_charAt_3b067_2 ?_
  refine r_cV (pc := 3) (S := []) (R := Hp) (res := h) (G := some h) (K := fun h' => some h') rfl (fun r hr => by cases hr; exact runS X dJ1_charAt_3b067_3 (c_J0_checkIndex h1 (by rw [nlen (by omega)]; exact h2)) mM_J1_9 mS_J0_checkIndex_df160 mN_J0 mK_J0_checkIndex_df160 rfl rfl hdd_J0_checkIndex_df160 ⟨Nat.le_of_ble_eq_true rfl, Nat.le_of_ble_eq_true rfl⟩ rfl rfl (Nat.le_of_ble_eq_true rfl) ⟨Nat.le_of_ble_eq_true rfl, Nat.le_of_ble_eq_true rfl⟩) (fun h' hh' => ?_)
  cases hh'
  refine r_aload_n (pc := 6) X dJ1_charAt_3b067_6 rfl rfl ?_
  refine r_iload_n (pc := 7) X dJ1_charAt_3b067_7 rfl rfl ?_
  refine r_sbald (pc := 8) X hq (vp_iff.mpr ⟨h1, h2⟩) dJ1_charAt_3b067_8 ?_
  rw [hcv, show iI (n : Int) = nI n from rfl]
  refine (fun kk H locs ls hc hs hl => lv_sipush X.1 X.2.1 dJ1_charAt_3b067_9 (v := 255) (by decide) (kk H locs ls hc hs hl) : Ev E ad shl p l e rm_J1_charAt s m _ below meth c 0 0 _ 2 h 12 _ [.int 255, .int (nI n)] → Ev E ad shl p l e rm_J1_charAt s m _ below meth c 0 0 _ 2 h 9 _ [.int (nI n)]) ?_
  refine (fun kk H locs ls hc hs hl => lv_iand X.1 X.2.1 dJ1_charAt_3b067_12 (kk H locs ls hc hs hl) : Ev E ad shl p l e rm_J1_charAt s m _ below meth c 0 0 _ 2 h 13 _ [.int (nI n &&& 255)] → Ev E ad shl p l e rm_J1_charAt s m _ below meth c 0 0 _ 2 h 12 _ [.int 255, .int (nI n)]) ?_
  refine r_i2c (pc := 13) X dJ1_charAt_3b067_13 (chr n (by omega)).1 ?_
  exact r_tret (pc := 14) X (chr n (by omega)).2 dJ1_charAt_3b067_14 rfl (nI_toInt (by omega))
theorem c_J0_charAt_5068e {k : Nat} {q : String × Nat × String} {x1 : Int32} {r : Int} (hq : strL[k]? = some q) (hg : sAt (strC k) x1.toInt = some r) : Met l yJ0_charAt_5068e (wsM yJ0_charAt_5068e cJ0_charAt_5068e 2 (some .char)) rm_J0_charAt_5068e (va_Pc [.ref (E.2.2.2.2.1 k), .int x1] (World E ad shl h)) (QcI E ad shl r h) 0 0 (bsA E) := by
  unfold sAt at hg
  split at hg
  next hi =>
    cases hg
    refine met_of (L0 := [some (.ref (E.2.2.2.2.1 k)), some (.int x1)]) rfl rfl rfl (Nat.le_of_ble_eq_true rfl) (fun p e s m below meth c X => ?_)
    have hch := (strC_len hq).2 x1.toInt.toNat (by omega)
    generalize hcv : (strC k).getD x1.toInt.toNat 0 = cv at hch ⊢
    obtain ⟨n, hn⟩ : ∃ n : Nat, cv = (n : Int) := ⟨cv.toNat, by omega⟩
    subst hn
    refine r_aload_n (pc := 0) X dJ0_charAt_5068e_0 rfl rfl ?_
    refine rStr0 (pc := 1) X dJ0_charAt_5068e_1 hq (c_J0_isLatin1 hq) mM_J0_492 mI_J0_isLatin1_aae02 mE_J0_isLatin1_aae02 mK_J0_isLatin1_aae02 rfl rfl hdd_J0_isLatin1_aae02 ⟨Nat.le_of_ble_eq_true rfl, Nat.le_of_ble_eq_true rfl⟩ (Nat.le_of_ble_eq_true rfl) ⟨Nat.le_of_ble_eq_true rfl, Nat.le_of_ble_eq_true rfl⟩ (fun Z hZ => ?_)
    have hz : Z = 1 := Int32.toInt_inj.mp hZ
    subst hz
    refine if_eq_n (pc := 4) X dJ0_charAt_5068e_4 (tgt := 16) (by decide) (by decide) ?_
    refine r_aload_n (pc := 7) X dJ0_charAt_5068e_7 rfl rfl ?_
    refine r_sval (pc := 8) X hq mF_J0_9 dJ0_charAt_5068e_8 ?_
    refine r_iload_n (pc := 11) X dJ0_charAt_5068e_11 rfl rfl ?_
    refine r_cX (pc := 12) (S := []) (runS X dJ0_charAt_5068e_12 (c_J1_charAt hq hi.1 hi.2) mM_J0_495 mS_J1_charAt_3b067 mN_J1 mK_J1_charAt_3b067 rfl rfl hdd_J1_charAt_3b067 ⟨Nat.le_of_ble_eq_true rfl, Nat.le_of_ble_eq_true rfl⟩ rfl rfl (Nat.le_of_ble_eq_true rfl) ⟨Nat.le_of_ble_eq_true rfl, Nat.le_of_ble_eq_true rfl⟩) (fun Z hZ => ?_)
    rw [hcv] at hZ
    have hz : Z = nI n := Int32.toInt_inj.mp (by rw [hZ, nI_toInt (by omega)])
    subst hz
    exact r_tret (pc := 15) X (chr n (by omega)).2 dJ0_charAt_5068e_15 rfl (nI_toInt (by omega))
  next => cases hg
-- planOrNull
abbrev rm_X8_planOrNull : Room := { frames := 0, cells := 0, slots := 0, locals := 0 }
theorem hdd_X8_planOrNull : yX8_planOrNull.cls = RX8 ∧ yX8_planOrNull.cls ≠ "java/lang/invoke/MethodHandle" ∧ yX8_planOrNull.cls ≠ "java/lang/invoke/VarHandle" ∧ (parseMethodDescriptor yX8_planOrNull.desc).map (fun d => d.parameters.length) = some 1 := ⟨rfl, by decide +kernel, by decide +kernel, by decide +kernel⟩
theorem c_X8_planOrNull {x1 : Int32} {r : Int} (Hb0 : At_X8 shl) (hg : g_X8_planOrNull x1.toInt h = some r) : Met l yX8_planOrNull (wsM yX8_planOrNull cX8_planOrNull 2 (some (.object "TideKeep$Plan"))) rm_X8_planOrNull (va_Pc [.ref (ad 0), .int x1] (World E ad shl h)) (QcN E ad shl r h) 0 0 (bsA E) := by
  refine met_of (L0 := [some (.ref (ad 0)), some (.int x1)]) rfl rfl rfl (Nat.le_of_ble_eq_true rfl) (fun p e s m below meth c X => ?_)
  have hG := hg
  unfold g_X8_planOrNull at hG
  refine r_iload_n (pc := 0) X dX8_planOrNull_0 rfl rfl ?_
  refine r_if_lt (pc := 1) X dX8_planOrNull_1 (tgt := 21) (by decide) hG (fun hG => ?_) (fun hG => ?_)
  · refine r_null (pc := 21) X dX8_planOrNull_21 ?_
    exact r_aretN (pc := 22) X dX8_planOrNull_22 rfl hG
  refine r_iload_n (pc := 4) X dX8_planOrNull_4 rfl rfl ?_
  refine r_aload_n (pc := 5) X dX8_planOrNull_5 rfl rfl ?_
  refine r_getI (pc := 6) X (at_X8_o Hb0) rfl mU_X8 (k := 6) (by decide) rfl mF_X8_102 dX8_planOrNull_6 hG (fun z1 hG => ?_)
  refine r_icmp_ge (pc := 9) X dX8_planOrNull_9 (tgt := 21) (by decide) hG (fun hG => ?_) (fun hG => ?_)
  · refine r_null (pc := 21) X dX8_planOrNull_21 ?_
    exact r_aretN (pc := 22) X dX8_planOrNull_22 rfl hG
  refine r_aload_n (pc := 12) X dX8_planOrNull_12 rfl rfl ?_
  refine r_getC (pc := 13) X (at_X8_o Hb0) rfl mU_X8 (k := 5) (by decide) (q := 25) rfl mF_X8_38 dX8_planOrNull_13 ?_
  refine r_iload_n (pc := 16) X dX8_planOrNull_16 rfl rfl ?_
  refine r_aald (pc := 17) X (at_X8_plans Hb0) (by decide) rfl (by decide) dX8_planOrNull_17 hG (fun q2 Hq2 hG => ?_)
  refine r_goto (pc := 18) X dX8_planOrNull_18 (tgt := 22) (by decide) ?_
  rw [show Value.ref (ad (61 + 5 * q2)) = npv ad ((61 + 5 * q2 : Nat) : Int) from (npv_pos (q := ((61 + 5 * q2 : Nat) : Int)) (Int.natCast_nonneg _)).symm]
  exact r_aretN (pc := 22) X dX8_planOrNull_22 rfl hG
end JDK
