/-! THE LAW: its cases, each a walk -/
abbrev LL (b : Nat) (ad : Nat → Nat) (iv : Int32) : List (Option Value) := [some (.ref b), some (.ref (ad 0)), some (.ref (ad 100)), some (.int iv)]
section LAWROWS
variable {E : EnvT} {ad : Nat → Nat} {shl : List Shp} {p : Program} {l : Launch} {e : Env} {Rm : Room} {s : State} {m : MethodId} {args : Array Value} {below : List Frame} {meth : Method} {c : Code} {cells slots : Nat} {Q : State → Prop} {nL : Nat} {cc : ByteArray} {own : String} {ret : Option FieldType}
variable {h : Hp} {pc : Nat} {L : List (Option Value)} {S : List Value} {R α : Type} {res : R}
theorem r_sld (X : Cx E p s m args meth c cc own nL ret) {b Ln : Nat} {xs : Nat → Int32} (hX : va_X b Ln xs s s.heap) (hbl : b < s.heap.size) (hbA : ¬ bsA E b) {x : Int32} (hin : vp_in x Ln) (hd : decode cc pc = .ok (.iaload, 1)) (kk : Ev E ad shl p l e Rm s m args below meth c cells slots Q nL h (pc + 1) L (.int (xs x.toNatClampNeg) :: S)) : Ev E ad shl p l e Rm s m args below meth c cells slots Q nL h pc L (.int x :: .ref b :: S) :=
  fun H locs ls hc hs hv => va_sld X.1 X.2.1 hX hbl hbA hs hin hd (kk H locs ls hc hs hv)
theorem r_lawlen (X : Cx E p s m args meth c cc own nL ret) {b Ln : Nat} {xs : Nat → Int32} (hX : va_X b Ln xs s s.heap) (hbl : b < s.heap.size) (hbA : ¬ bsA E b) (hd : decode cc pc = .ok (.arraylength, 1)) (kk : Ev E ad shl p l e Rm s m args below meth c cells slots Q nL h (pc + 1) L (.int (Int32.ofNat Ln) :: S)) : Ev E ad shl p l e Rm s m args below meth c cells slots Q nL h pc L (.ref b :: S) :=
  fun H locs ls hc hs hv => va_slen X.1 X.2.1 hX hbl hbA hs hd (kk H locs ls hc hs hv)
theorem r_tableIn (X : Cx E p s m args meth c cc own nL ret) {dflt lo hi : Int} {offs : Array Int} {len : Nat} {x : Int32} {off : Int} {tgt : Nat} (hd : decode cc pc = .ok (.tableswitch dflt lo hi offs, len)) (h1 : ¬ x.toInt < lo) (h2 : ¬ hi < x.toInt) (ho : offs[(x.toInt - lo).toNat]? = some off) (ht : (pc : Int) + off = (tgt : Int)) (kk : Ev E ad shl p l e Rm s m args below meth c cells slots Q nL h tgt L S) : Ev E ad shl p l e Rm s m args below meth c cells slots Q nL h pc L (.int x :: S) :=
  fun H locs ls hc hs hv => lv_tableIn X.1 X.2.1 hd h1 h2 ho ht (kk H locs ls hc hs hv)
theorem r_tableOut (X : Cx E p s m args meth c cc own nL ret) {dflt lo hi : Int} {offs : Array Int} {len : Nat} {x : Int32} {tgt : Nat} (hd : decode cc pc = .ok (.tableswitch dflt lo hi offs, len)) (h1 : x.toInt < lo ∨ hi < x.toInt) (ht : (pc : Int) + dflt = (tgt : Int)) (kk : Ev E ad shl p l e Rm s m args below meth c cells slots Q nL h tgt L S) : Ev E ad shl p l e Rm s m args below meth c cells slots Q nL h pc L (.int x :: S) :=
  fun H locs ls hc hs hv => lv_tableOut X.1 X.2.1 hd h1 ht (kk H locs ls hc hs hv)
/-- what the law knows of its script while it walks -/
def SC (E : EnvT) (s : State) (b Ln : Nat) (xs : Nat → Int32) (iv : Int32) (i : Nat) : Prop := va_X b Ln xs s s.heap ∧ b < s.heap.size ∧ ¬ bsA E b ∧ Ln ≤ 3584 ∧ iv.toInt = (i : Int) ∧ i + 7 ≤ Ln
theorem r_argc (X : Cx E p s m args meth c cc own nL ret) {b Ln i k : Nat} {xs : Nat → Int32} {iv x : Int32} (C : SC E s b Ln xs iv i) (hk : k < 7) (hx : x.toInt = (i : Int) + (k : Int)) (hd : decode cc pc = .ok (.iaload, 1)) (kk : Ev E ad shl p l e Rm s m args below meth c cells slots Q nL h (pc + 1) L (.int (xs (i + k)) :: S)) : Ev E ad shl p l e Rm s m args below meth c cells slots Q nL h pc L (.int x :: .ref b :: S) := by
  obtain ⟨c1, c2, c3, c4, c5, c6⟩ := C
  have e : x.toNatClampNeg = i + k := by rw [toNatClamp]; omega
  refine r_sld X c1 c2 c3 (vp_iff.mpr ⟨by omega, by omega⟩) hd ?_
  rw [e]
  exact kk
/-- a word of the script, by its place behind the one that names the call -/
theorem r_arg (X : Cx E p s m args meth c cc own nL ret) {b Ln i k : Nat} {xs : Nat → Int32} {iv : Int32} (C : SC E s b Ln xs iv i) (hk : k < 6) (hl0 : L[0]? = some (some (.ref b))) (hl3 : L[3]? = some (some (.int iv))) (d0 : decode cc pc = .ok (.aload_n 0, 1)) (d1 : decode cc (pc + 1) = .ok (.iload_n 3, 1)) (d2 : decode cc (pc + 1 + 1) = .ok (.iconst (k : Int), 1)) (d3 : decode cc (pc + 1 + 1 + 1) = .ok (.iadd, 1)) (d4 : decode cc (pc + 1 + 1 + 1 + 1) = .ok (.iaload, 1)) (kk : Ev E ad shl p l e Rm s m args below meth c cells slots Q nL h (pc + 1 + 1 + 1 + 1 + 1) L (.int (xs (i + k)) :: S)) : Ev E ad shl p l e Rm s m args below meth c cells slots Q nL h pc L S := by
  have c4 := C.2.2.2.1
  have c5 := C.2.2.2.2.1
  have c6 := C.2.2.2.2.2
  have hv : (Int32.ofInt (k : Int)).toInt = (k : Int) := by
    rcases (by omega : k = 0 ∨ k = 1 ∨ k = 2 ∨ k = 3 ∨ k = 4 ∨ k = 5) with rfl | rfl | rfl | rfl | rfl | rfl <;> decide
  have hG : (cI (k : Int) fun z => addI iv.toInt z fun w => if w = (i : Int) + (k : Int) then some () else none) = some () := by
    rw [e_cI, e_add _ _ _ (by omega), c5, if_pos rfl]
  refine r_aload_n X d0 rfl hl0 ?_
  refine r_iload_n X d1 rfl hl3 ?_
  refine r_iconst X d2 hG hv (fun z hG => ?_)
  refine r_iadd X d3 hG (fun Z hG => ?_)
  refine r_argc X C (k := k) (by omega) ?_ d4 kk
  by_cases y : Z.toInt = (i : Int) + (k : Int)
  · exact y
  · rw [if_neg y] at hG; cases hG
theorem r_arg6 (X : Cx E p s m args meth c cc own nL ret) {b Ln i : Nat} {xs : Nat → Int32} {iv : Int32} (C : SC E s b Ln xs iv i) (hl0 : L[0]? = some (some (.ref b))) (hl3 : L[3]? = some (some (.int iv))) (d0 : decode cc pc = .ok (.aload_n 0, 1)) (d1 : decode cc (pc + 1) = .ok (.iload_n 3, 1)) (d2 : decode cc (pc + 1 + 1) = .ok (.bipush 6, 2)) (d3 : decode cc (pc + 1 + 1 + 2) = .ok (.iadd, 1)) (d4 : decode cc (pc + 1 + 1 + 2 + 1) = .ok (.iaload, 1)) (kk : Ev E ad shl p l e Rm s m args below meth c cells slots Q nL h (pc + 1 + 1 + 2 + 1 + 1) L (.int (xs (i + 6)) :: S)) : Ev E ad shl p l e Rm s m args below meth c cells slots Q nL h pc L S := by
  have c4 := C.2.2.2.1
  have c5 := C.2.2.2.2.1
  have c6 := C.2.2.2.2.2
  have hG : (cI 6 fun z => addI iv.toInt z fun w => if w = (i : Int) + 6 then some () else none) = some () := by
    rw [e_cI, e_add _ _ _ (by omega), c5, if_pos rfl]
  refine r_aload_n X d0 rfl hl0 ?_
  refine r_iload_n X d1 rfl hl3 ?_
  refine r_bipush X d2 hG (by decide) (fun z hG => ?_)
  refine r_iadd X d3 hG (fun Z hG => ?_)
  refine r_argc X C (k := 6) (by omega) ?_ d4 kk
  by_cases y : Z.toInt = (i : Int) + 6
  · exact y
  · rw [if_neg y] at hG; cases hG
theorem r_bool (X : Cx E p s m args meth c cc own nL ret) {x : Int32} (d0 : decode cc pc = .ok (.ifCond .eq 7, 3)) (d1 : decode cc (pc + 3) = .ok (.iconst 1, 1)) (d2 : decode cc (pc + 4) = .ok (.goto 4, 3)) (d3 : decode cc (pc + 7) = .ok (.iconst 0, 1)) (kk : ∀ Z : Int32, Z.toInt = (if x.toInt = 0 then 0 else 1) → Ev E ad shl p l e Rm s m args below meth c cells slots Q nL h (pc + 8) L (.int Z :: S)) : Ev E ad shl p l e Rm s m args below meth c cells slots Q nL h pc L (.int x :: S) := by
  have one : ∀ v : Int, (cI v fun z => if z = v then some () else none) = some () := fun v => by rw [e_cI, if_pos rfl]
  by_cases y : x.toInt = 0
  · refine r_if_eq (A := some ()) (B := none) (res := ()) X d0 (tgt := pc + 7) (by omega) (by rw [if_pos y]) (fun _ => ?_) (fun q => by cases q)
    refine r_iconst X d3 (one 0) (by decide) (fun Z hG => ?_)
    refine kk Z ?_
    rw [if_pos y]
    by_cases z : Z.toInt = 0
    · exact z
    · rw [if_neg z] at hG; cases hG
  · refine r_if_eq (A := none) (B := some ()) (res := ()) X d0 (tgt := pc + 7) (by omega) (by rw [if_neg y]) (fun q => by cases q) (fun _ => ?_)
    refine r_iconst X d1 (one 1) (by decide) (fun Z hG => ?_)
    refine r_goto X d2 (tgt := pc + 8) (by omega) (kk Z ?_)
    rw [if_neg y]
    by_cases z : Z.toInt = 1
    · exact z
    · rw [if_neg z] at hG; cases hG
end LAWROWS
section LAWCASES
variable {E : EnvT} {ad : Nat → Nat} {shl : List Shp} {p : Program} {l : Launch} {e : Env} {s : State} {m : MethodId} {args : Array Value} {below : List Frame} {meth : Method} {c : Code} {Q : State → Prop} {h res : Hp} {b Ln i : Nat} {xs : Nat → Int32} {iv : Int32}
set_option maxRecDepth 100000 in
set_option maxHeartbeats 4000000 in
theorem lc_feed (X : Cx E p s m args meth c cL_law RL 4 ret) (Hb8 : At_X8 shl) (Hb9 : At_X9 shl) (C : SC E s b Ln xs iv i) (hG : (cW (g_X8_feed (xs (i + 1)).toInt (xs (i + 2)).toInt (xs (i + 3)).toInt (xs (i + 4)).toInt (xs (i + 5)).toInt h) fun z1 h1 => cW (g_X9_feed (xs (i + 1)).toInt (xs (i + 2)).toInt (xs (i + 3)).toInt (xs (i + 4)).toInt (xs (i + 5)).toInt h1) fun z2 h2 => if z1 = z2 then some h2 else none) = some res) (kk : Ev E ad shl p l e room_1 s m args below meth c 600000 7302250 Q 4 res 1394 (LL b ad iv) []) : Ev E ad shl p l e room_1 s m args below meth c 600000 7302250 Q 4 h 184 (LL b ad iv) [] := by
  refine r_aload_n (pc := 184) X dL_law_184 rfl rfl ?_
  refine r_arg (pc := 185) (k := 1) X C (by omega) rfl rfl dL_law_185 dL_law_186 dL_law_187 dL_law_188 dL_law_189 ?_
  refine r_arg (pc := 190) (k := 2) X C (by omega) rfl rfl dL_law_190 dL_law_191 dL_law_192 dL_law_193 dL_law_194 ?_
  refine r_arg (pc := 195) (k := 3) X C (by omega) rfl rfl dL_law_195 dL_law_196 dL_law_197 dL_law_198 dL_law_199 ?_
  refine r_arg (pc := 200) (k := 4) X C (by omega) rfl rfl dL_law_200 dL_law_201 dL_law_202 dL_law_203 dL_law_204 ?_
  refine r_arg (pc := 205) (k := 5) X C (by omega) rfl rfl dL_law_205 dL_law_206 dL_law_207 dL_law_208 dL_law_209 ?_
  refine r_cW (pc := 210) hG (fun _ hg => runV X dL_law_210 (c_X8_feed Hb8 hg) mM_L_13 mI_X8_feed mE_X8_feed mN_X8 mK_X8_feed (at_X8_o Hb8) rfl rfl rfl rfl hdd_X8_feed ⟨(Nat.le_of_ble_eq_true rfl), (Nat.le_of_ble_eq_true rfl)⟩ rfl rfl (Nat.le_of_ble_eq_true rfl) ⟨(Nat.le_of_ble_eq_true rfl), (Nat.le_of_ble_eq_true rfl)⟩) (fun Z1 g1 hG => ?_)
  refine r_aload_n (pc := 213) X dL_law_213 rfl rfl ?_
  refine r_arg (pc := 214) (k := 1) X C (by omega) rfl rfl dL_law_214 dL_law_215 dL_law_216 dL_law_217 dL_law_218 ?_
  refine r_arg (pc := 219) (k := 2) X C (by omega) rfl rfl dL_law_219 dL_law_220 dL_law_221 dL_law_222 dL_law_223 ?_
  refine r_arg (pc := 224) (k := 3) X C (by omega) rfl rfl dL_law_224 dL_law_225 dL_law_226 dL_law_227 dL_law_228 ?_
  refine r_arg (pc := 229) (k := 4) X C (by omega) rfl rfl dL_law_229 dL_law_230 dL_law_231 dL_law_232 dL_law_233 ?_
  refine r_arg (pc := 234) (k := 5) X C (by omega) rfl rfl dL_law_234 dL_law_235 dL_law_236 dL_law_237 dL_law_238 ?_
  refine r_cW (pc := 239) hG (fun _ hg => runV X dL_law_239 (c_X9_feed Hb9 hg) mM_L_17 mI_X9_feed mE_X9_feed mN_X9 mK_X9_feed (at_X9_o Hb9) rfl rfl rfl rfl hdd_X9_feed ⟨(Nat.le_of_ble_eq_true rfl), (Nat.le_of_ble_eq_true rfl)⟩ rfl rfl (Nat.le_of_ble_eq_true rfl) ⟨(Nat.le_of_ble_eq_true rfl), (Nat.le_of_ble_eq_true rfl)⟩) (fun Z2 g2 hG => ?_)
  refine r_icmp_eq (pc := 242) X dL_law_242 (tgt := 1394) (by decide) hG (fun hG => ?_) (fun hG => by cases hG)
  injection hG with hG
  rw [hG]
  exact kk
set_option maxRecDepth 100000 in
set_option maxHeartbeats 4000000 in
theorem lc_end (X : Cx E p s m args meth c cL_law RL 4 ret) (Hb8 : At_X8 shl) (Hb9 : At_X9 shl) (C : SC E s b Ln xs iv i) (hG : (cW (g_X8_end (xs (i + 1)).toInt h) fun z1 h1 => cW (g_X9_end (xs (i + 1)).toInt h1) fun z2 h2 => if z1 = z2 then some h2 else none) = some res) (kk : Ev E ad shl p l e room_1 s m args below meth c 600000 7302250 Q 4 res 1394 (LL b ad iv) []) : Ev E ad shl p l e room_1 s m args below meth c 600000 7302250 Q 4 h 247 (LL b ad iv) [] := by
  refine r_aload_n (pc := 247) X dL_law_247 rfl rfl ?_
  refine r_arg (pc := 248) (k := 1) X C (by omega) rfl rfl dL_law_248 dL_law_249 dL_law_250 dL_law_251 dL_law_252 ?_
  refine r_cW (pc := 253) hG (fun _ hg => runV X dL_law_253 (c_X8_end Hb8 hg) mM_L_18 mI_X8_end mE_X8_end mN_X8 mK_X8_end (at_X8_o Hb8) rfl rfl rfl rfl hdd_X8_end ⟨(Nat.le_of_ble_eq_true rfl), (Nat.le_of_ble_eq_true rfl)⟩ rfl rfl (Nat.le_of_ble_eq_true rfl) ⟨(Nat.le_of_ble_eq_true rfl), (Nat.le_of_ble_eq_true rfl)⟩) (fun Z1 g1 hG => ?_)
  refine r_aload_n (pc := 256) X dL_law_256 rfl rfl ?_
  refine r_arg (pc := 257) (k := 1) X C (by omega) rfl rfl dL_law_257 dL_law_258 dL_law_259 dL_law_260 dL_law_261 ?_
  refine r_cW (pc := 262) hG (fun _ hg => runV X dL_law_262 (c_X9_end Hb9 hg) mM_L_22 mI_X9_end mE_X9_end mN_X9 mK_X9_end (at_X9_o Hb9) rfl rfl rfl rfl hdd_X9_end ⟨(Nat.le_of_ble_eq_true rfl), (Nat.le_of_ble_eq_true rfl)⟩ rfl rfl (Nat.le_of_ble_eq_true rfl) ⟨(Nat.le_of_ble_eq_true rfl), (Nat.le_of_ble_eq_true rfl)⟩) (fun Z2 g2 hG => ?_)
  refine r_icmp_eq (pc := 265) X dL_law_265 (tgt := 1394) (by decide) hG (fun hG => ?_) (fun hG => by cases hG)
  injection hG with hG
  rw [hG]
  exact kk
set_option maxRecDepth 100000 in
set_option maxHeartbeats 4000000 in
theorem lc_beach (X : Cx E p s m args meth c cL_law RL 4 ret) (Hb8 : At_X8 shl) (Hb9 : At_X9 shl) (C : SC E s b Ln xs iv i) (hG : (cW (g_X8_beach h) fun z1 h1 => cW (g_X9_beach h1) fun z2 h2 => if z1 = z2 then some h2 else none) = some res) (kk : Ev E ad shl p l e room_1 s m args below meth c 600000 7302250 Q 4 res 1394 (LL b ad iv) []) : Ev E ad shl p l e room_1 s m args below meth c 600000 7302250 Q 4 h 270 (LL b ad iv) [] := by
  refine r_aload_n (pc := 270) X dL_law_270 rfl rfl ?_
  refine r_cW (pc := 271) hG (fun _ hg => runV X dL_law_271 (c_X8_beach Hb8 hg) mM_L_23 mI_X8_beach mE_X8_beach mN_X8 mK_X8_beach (at_X8_o Hb8) rfl rfl rfl rfl hdd_X8_beach ⟨(Nat.le_of_ble_eq_true rfl), (Nat.le_of_ble_eq_true rfl)⟩ rfl rfl (Nat.le_of_ble_eq_true rfl) ⟨(Nat.le_of_ble_eq_true rfl), (Nat.le_of_ble_eq_true rfl)⟩) (fun Z1 g1 hG => ?_)
  refine r_aload_n (pc := 274) X dL_law_274 rfl rfl ?_
  refine r_cW (pc := 275) hG (fun _ hg => runV X dL_law_275 (c_X9_beach Hb9 hg) mM_L_27 mI_X9_beach mE_X9_beach mN_X9 mK_X9_beach (at_X9_o Hb9) rfl rfl rfl rfl hdd_X9_beach ⟨(Nat.le_of_ble_eq_true rfl), (Nat.le_of_ble_eq_true rfl)⟩ rfl rfl (Nat.le_of_ble_eq_true rfl) ⟨(Nat.le_of_ble_eq_true rfl), (Nat.le_of_ble_eq_true rfl)⟩) (fun Z2 g2 hG => ?_)
  refine r_icmp_eq (pc := 278) X dL_law_278 (tgt := 1394) (by decide) hG (fun hG => ?_) (fun hG => by cases hG)
  injection hG with hG
  rw [hG]
  exact kk
set_option maxRecDepth 100000 in
set_option maxHeartbeats 4000000 in
theorem lc_sea (X : Cx E p s m args meth c cL_law RL 4 ret) (Hb8 : At_X8 shl) (Hb9 : At_X9 shl) (C : SC E s b Ln xs iv i) (hG : (cW (g_X8_sea h) fun z1 h1 => cW (g_X9_sea h1) fun z2 h2 => if z1 = z2 then some h2 else none) = some res) (kk : Ev E ad shl p l e room_1 s m args below meth c 600000 7302250 Q 4 res 1394 (LL b ad iv) []) : Ev E ad shl p l e room_1 s m args below meth c 600000 7302250 Q 4 h 283 (LL b ad iv) [] := by
  refine r_aload_n (pc := 283) X dL_law_283 rfl rfl ?_
  refine r_cW (pc := 284) hG (fun _ hg => runV X dL_law_284 (c_X8_sea Hb8 hg) mM_L_28 mI_X8_sea mE_X8_sea mN_X8 mK_X8_sea (at_X8_o Hb8) rfl rfl rfl rfl hdd_X8_sea ⟨(Nat.le_of_ble_eq_true rfl), (Nat.le_of_ble_eq_true rfl)⟩ rfl rfl (Nat.le_of_ble_eq_true rfl) ⟨(Nat.le_of_ble_eq_true rfl), (Nat.le_of_ble_eq_true rfl)⟩) (fun Z1 g1 hG => ?_)
  refine r_aload_n (pc := 287) X dL_law_287 rfl rfl ?_
  refine r_cW (pc := 288) hG (fun _ hg => runV X dL_law_288 (c_X9_sea Hb9 hg) mM_L_31 mI_X9_sea mE_X9_sea mN_X9 mK_X9_sea (at_X9_o Hb9) rfl rfl rfl rfl hdd_X9_sea ⟨(Nat.le_of_ble_eq_true rfl), (Nat.le_of_ble_eq_true rfl)⟩ rfl rfl (Nat.le_of_ble_eq_true rfl) ⟨(Nat.le_of_ble_eq_true rfl), (Nat.le_of_ble_eq_true rfl)⟩) (fun Z2 g2 hG => ?_)
  refine r_icmp_eq (pc := 291) X dL_law_291 (tgt := 1394) (by decide) hG (fun hG => ?_) (fun hG => by cases hG)
  injection hG with hG
  rw [hG]
  exact kk
set_option maxRecDepth 100000 in
set_option maxHeartbeats 4000000 in
theorem lc_plan (X : Cx E p s m args meth c cL_law RL 4 ret) (Hb8 : At_X8 shl) (Hb9 : At_X9 shl) (C : SC E s b Ln xs iv i) (hG : (cW (g_X8_plan h) fun z1 h1 => cW (g_X9_plan h1) fun z2 h2 => if z1 = z2 then some h2 else none) = some res) (kk : Ev E ad shl p l e room_1 s m args below meth c 600000 7302250 Q 4 res 1394 (LL b ad iv) []) : Ev E ad shl p l e room_1 s m args below meth c 600000 7302250 Q 4 h 296 (LL b ad iv) [] := by
  refine r_aload_n (pc := 296) X dL_law_296 rfl rfl ?_
  refine r_cW (pc := 297) hG (fun _ hg => runV X dL_law_297 (c_X8_plan Hb8 hg) mM_L_32 mI_X8_plan mE_X8_plan mN_X8 mK_X8_plan (at_X8_o Hb8) rfl rfl rfl rfl hdd_X8_plan ⟨(Nat.le_of_ble_eq_true rfl), (Nat.le_of_ble_eq_true rfl)⟩ rfl rfl (Nat.le_of_ble_eq_true rfl) ⟨(Nat.le_of_ble_eq_true rfl), (Nat.le_of_ble_eq_true rfl)⟩) (fun Z1 g1 hG => ?_)
  refine r_aload_n (pc := 300) X dL_law_300 rfl rfl ?_
  refine r_cW (pc := 301) hG (fun _ hg => runV X dL_law_301 (c_X9_plan Hb9 hg) mM_L_35 mI_X9_plan mE_X9_plan mN_X9 mK_X9_plan (at_X9_o Hb9) rfl rfl rfl rfl hdd_X9_plan ⟨(Nat.le_of_ble_eq_true rfl), (Nat.le_of_ble_eq_true rfl)⟩ rfl rfl (Nat.le_of_ble_eq_true rfl) ⟨(Nat.le_of_ble_eq_true rfl), (Nat.le_of_ble_eq_true rfl)⟩) (fun Z2 g2 hG => ?_)
  refine r_icmp_eq (pc := 304) X dL_law_304 (tgt := 1394) (by decide) hG (fun hG => ?_) (fun hG => by cases hG)
  injection hG with hG
  rw [hG]
  exact kk
set_option maxRecDepth 100000 in
set_option maxHeartbeats 4000000 in
theorem lc_fault (X : Cx E p s m args meth c cL_law RL 4 ret) (Hb8 : At_X8 shl) (Hb9 : At_X9 shl) (C : SC E s b Ln xs iv i) (hG : (cP (g_X8_fault (xs (i + 1)).toInt h) fun z1 => cP (g_X9_fault (xs (i + 1)).toInt h) fun z2 => if z1 = z2 then some h else none) = some res) (kk : Ev E ad shl p l e room_1 s m args below meth c 600000 7302250 Q 4 res 1394 (LL b ad iv) []) : Ev E ad shl p l e room_1 s m args below meth c 600000 7302250 Q 4 h 309 (LL b ad iv) [] := by
  refine r_aload_n (pc := 309) X dL_law_309 rfl rfl ?_
  refine r_arg (pc := 310) (k := 1) X C (by omega) rfl rfl dL_law_310 dL_law_311 dL_law_312 dL_law_313 dL_law_314 ?_
  refine r_cP (pc := 315) hG (fun _ hg => runV X dL_law_315 (c_X8_fault Hb8 hg) mM_L_36 mI_X8_fault mE_X8_fault mN_X8 mK_X8_fault (at_X8_o Hb8) rfl rfl rfl rfl hdd_X8_fault ⟨(Nat.le_of_ble_eq_true rfl), (Nat.le_of_ble_eq_true rfl)⟩ rfl rfl (Nat.le_of_ble_eq_true rfl) ⟨(Nat.le_of_ble_eq_true rfl), (Nat.le_of_ble_eq_true rfl)⟩) (fun Z1 hG => ?_)
  refine r_aload_n (pc := 318) X dL_law_318 rfl rfl ?_
  refine r_arg (pc := 319) (k := 1) X C (by omega) rfl rfl dL_law_319 dL_law_320 dL_law_321 dL_law_322 dL_law_323 ?_
  refine r_cP (pc := 324) hG (fun _ hg => runV X dL_law_324 (c_X9_fault Hb9 hg) mM_L_39 mI_X9_fault mE_X9_fault mN_X9 mK_X9_fault (at_X9_o Hb9) rfl rfl rfl rfl hdd_X9_fault ⟨(Nat.le_of_ble_eq_true rfl), (Nat.le_of_ble_eq_true rfl)⟩ rfl rfl (Nat.le_of_ble_eq_true rfl) ⟨(Nat.le_of_ble_eq_true rfl), (Nat.le_of_ble_eq_true rfl)⟩) (fun Z2 hG => ?_)
  refine r_icmp_eq (pc := 327) X dL_law_327 (tgt := 1394) (by decide) hG (fun hG => ?_) (fun hG => by cases hG)
  injection hG with hG
  rw [hG]
  exact kk
set_option maxRecDepth 100000 in
set_option maxHeartbeats 4000000 in
theorem lc_told (X : Cx E p s m args meth c cL_law RL 4 ret) (Hb8 : At_X8 shl) (Hb9 : At_X9 shl) (C : SC E s b Ln xs iv i) (hG : (cP (g_X8_told (xs (i + 1)).toInt h) fun z1 => cP (g_X9_told (xs (i + 1)).toInt h) fun z2 => if z1 = z2 then some h else none) = some res) (kk : Ev E ad shl p l e room_1 s m args below meth c 600000 7302250 Q 4 res 1394 (LL b ad iv) []) : Ev E ad shl p l e room_1 s m args below meth c 600000 7302250 Q 4 h 332 (LL b ad iv) [] := by
  refine r_aload_n (pc := 332) X dL_law_332 rfl rfl ?_
  refine r_arg (pc := 333) (k := 1) X C (by omega) rfl rfl dL_law_333 dL_law_334 dL_law_335 dL_law_336 dL_law_337 ?_
  refine r_cP (pc := 338) hG (fun _ hg => runV X dL_law_338 (c_X8_told Hb8 hg) mM_L_40 mI_X8_told mE_X8_told mN_X8 mK_X8_told (at_X8_o Hb8) rfl rfl rfl rfl hdd_X8_told ⟨(Nat.le_of_ble_eq_true rfl), (Nat.le_of_ble_eq_true rfl)⟩ rfl rfl (Nat.le_of_ble_eq_true rfl) ⟨(Nat.le_of_ble_eq_true rfl), (Nat.le_of_ble_eq_true rfl)⟩) (fun Z1 hG => ?_)
  refine r_aload_n (pc := 341) X dL_law_341 rfl rfl ?_
  refine r_arg (pc := 342) (k := 1) X C (by omega) rfl rfl dL_law_342 dL_law_343 dL_law_344 dL_law_345 dL_law_346 ?_
  refine r_cP (pc := 347) hG (fun _ hg => runV X dL_law_347 (c_X9_told Hb9 hg) mM_L_43 mI_X9_told mE_X9_told mN_X9 mK_X9_told (at_X9_o Hb9) rfl rfl rfl rfl hdd_X9_told ⟨(Nat.le_of_ble_eq_true rfl), (Nat.le_of_ble_eq_true rfl)⟩ rfl rfl (Nat.le_of_ble_eq_true rfl) ⟨(Nat.le_of_ble_eq_true rfl), (Nat.le_of_ble_eq_true rfl)⟩) (fun Z2 hG => ?_)
  refine r_icmp_eq (pc := 350) X dL_law_350 (tgt := 1394) (by decide) hG (fun hG => ?_) (fun hG => by cases hG)
  injection hG with hG
  rw [hG]
  exact kk
set_option maxRecDepth 100000 in
set_option maxHeartbeats 4000000 in
theorem lc_wave (X : Cx E p s m args meth c cL_law RL 4 ret) (Hb8 : At_X8 shl) (Hb9 : At_X9 shl) (C : SC E s b Ln xs iv i) (hG : (cP (g_X8_wave (xs (i + 1)).toInt (xs (i + 2)).toInt h) fun z1 => cP (g_X9_wave (xs (i + 1)).toInt (xs (i + 2)).toInt h) fun z2 => if z1 = z2 then some h else none) = some res) (kk : Ev E ad shl p l e room_1 s m args below meth c 600000 7302250 Q 4 res 1394 (LL b ad iv) []) : Ev E ad shl p l e room_1 s m args below meth c 600000 7302250 Q 4 h 355 (LL b ad iv) [] := by
  refine r_aload_n (pc := 355) X dL_law_355 rfl rfl ?_
  refine r_arg (pc := 356) (k := 1) X C (by omega) rfl rfl dL_law_356 dL_law_357 dL_law_358 dL_law_359 dL_law_360 ?_
  refine r_arg (pc := 361) (k := 2) X C (by omega) rfl rfl dL_law_361 dL_law_362 dL_law_363 dL_law_364 dL_law_365 ?_
  refine r_cP (pc := 366) hG (fun _ hg => runV X dL_law_366 (c_X8_wave Hb8 hg) mM_L_44 mI_X8_wave mE_X8_wave mN_X8 mK_X8_wave (at_X8_o Hb8) rfl rfl rfl rfl hdd_X8_wave ⟨(Nat.le_of_ble_eq_true rfl), (Nat.le_of_ble_eq_true rfl)⟩ rfl rfl (Nat.le_of_ble_eq_true rfl) ⟨(Nat.le_of_ble_eq_true rfl), (Nat.le_of_ble_eq_true rfl)⟩) (fun Z1 hG => ?_)
  refine r_aload_n (pc := 369) X dL_law_369 rfl rfl ?_
  refine r_arg (pc := 370) (k := 1) X C (by omega) rfl rfl dL_law_370 dL_law_371 dL_law_372 dL_law_373 dL_law_374 ?_
  refine r_arg (pc := 375) (k := 2) X C (by omega) rfl rfl dL_law_375 dL_law_376 dL_law_377 dL_law_378 dL_law_379 ?_
  refine r_cP (pc := 380) hG (fun _ hg => runV X dL_law_380 (c_X9_wave Hb9 hg) mM_L_48 mI_X9_wave mE_X9_wave mN_X9 mK_X9_wave (at_X9_o Hb9) rfl rfl rfl rfl hdd_X9_wave ⟨(Nat.le_of_ble_eq_true rfl), (Nat.le_of_ble_eq_true rfl)⟩ rfl rfl (Nat.le_of_ble_eq_true rfl) ⟨(Nat.le_of_ble_eq_true rfl), (Nat.le_of_ble_eq_true rfl)⟩) (fun Z2 hG => ?_)
  refine r_icmp_eq (pc := 383) X dL_law_383 (tgt := 1394) (by decide) hG (fun hG => ?_) (fun hG => by cases hG)
  injection hG with hG
  rw [hG]
  exact kk
set_option maxRecDepth 100000 in
set_option maxHeartbeats 4000000 in
theorem lc_act (X : Cx E p s m args meth c cL_law RL 4 ret) (Hb8 : At_X8 shl) (Hb9 : At_X9 shl) (C : SC E s b Ln xs iv i) (hG : (cP (g_X8_act (xs (i + 1)).toInt (xs (i + 2)).toInt (xs (i + 3)).toInt (xs (i + 4)).toInt h) fun z1 => cP (g_X9_act (xs (i + 1)).toInt (xs (i + 2)).toInt (xs (i + 3)).toInt (xs (i + 4)).toInt h) fun z2 => if z1 = z2 then some h else none) = some res) (kk : Ev E ad shl p l e room_1 s m args below meth c 600000 7302250 Q 4 res 1394 (LL b ad iv) []) : Ev E ad shl p l e room_1 s m args below meth c 600000 7302250 Q 4 h 388 (LL b ad iv) [] := by
  refine r_aload_n (pc := 388) X dL_law_388 rfl rfl ?_
  refine r_arg (pc := 389) (k := 1) X C (by omega) rfl rfl dL_law_389 dL_law_390 dL_law_391 dL_law_392 dL_law_393 ?_
  refine r_arg (pc := 394) (k := 2) X C (by omega) rfl rfl dL_law_394 dL_law_395 dL_law_396 dL_law_397 dL_law_398 ?_
  refine r_arg (pc := 399) (k := 3) X C (by omega) rfl rfl dL_law_399 dL_law_400 dL_law_401 dL_law_402 dL_law_403 ?_
  refine r_arg (pc := 404) (k := 4) X C (by omega) rfl rfl dL_law_404 dL_law_405 dL_law_406 dL_law_407 dL_law_408 ?_
  refine r_cP (pc := 409) hG (fun _ hg => runV X dL_law_409 (c_X8_act Hb8 hg) mM_L_49 mI_X8_act mE_X8_act mN_X8 mK_X8_act (at_X8_o Hb8) rfl rfl rfl rfl hdd_X8_act ⟨(Nat.le_of_ble_eq_true rfl), (Nat.le_of_ble_eq_true rfl)⟩ rfl rfl (Nat.le_of_ble_eq_true rfl) ⟨(Nat.le_of_ble_eq_true rfl), (Nat.le_of_ble_eq_true rfl)⟩) (fun Z1 hG => ?_)
  refine r_aload_n (pc := 412) X dL_law_412 rfl rfl ?_
  refine r_arg (pc := 413) (k := 1) X C (by omega) rfl rfl dL_law_413 dL_law_414 dL_law_415 dL_law_416 dL_law_417 ?_
  refine r_arg (pc := 418) (k := 2) X C (by omega) rfl rfl dL_law_418 dL_law_419 dL_law_420 dL_law_421 dL_law_422 ?_
  refine r_arg (pc := 423) (k := 3) X C (by omega) rfl rfl dL_law_423 dL_law_424 dL_law_425 dL_law_426 dL_law_427 ?_
  refine r_arg (pc := 428) (k := 4) X C (by omega) rfl rfl dL_law_428 dL_law_429 dL_law_430 dL_law_431 dL_law_432 ?_
  refine r_cP (pc := 433) hG (fun _ hg => runV X dL_law_433 (c_X9_act Hb9 hg) mM_L_53 mI_X9_act mE_X9_act mN_X9 mK_X9_act (at_X9_o Hb9) rfl rfl rfl rfl hdd_X9_act ⟨(Nat.le_of_ble_eq_true rfl), (Nat.le_of_ble_eq_true rfl)⟩ rfl rfl (Nat.le_of_ble_eq_true rfl) ⟨(Nat.le_of_ble_eq_true rfl), (Nat.le_of_ble_eq_true rfl)⟩) (fun Z2 hG => ?_)
  refine r_icmp_eq (pc := 436) X dL_law_436 (tgt := 1394) (by decide) hG (fun hG => ?_) (fun hG => by cases hG)
  injection hG with hG
  rw [hG]
  exact kk
set_option maxRecDepth 100000 in
set_option maxHeartbeats 4000000 in
theorem lc_chance (X : Cx E p s m args meth c cL_law RL 4 ret) (Hb8 : At_X8 shl) (Hb9 : At_X9 shl) (C : SC E s b Ln xs iv i) (hG : (cW (g_X8_chance (xs (i + 1)).toInt h) fun z1 h1 => cW (g_X9_chance (xs (i + 1)).toInt h1) fun z2 h2 => if z1 = z2 then some h2 else none) = some res) (kk : Ev E ad shl p l e room_1 s m args below meth c 600000 7302250 Q 4 res 1394 (LL b ad iv) []) : Ev E ad shl p l e room_1 s m args below meth c 600000 7302250 Q 4 h 441 (LL b ad iv) [] := by
  refine r_aload_n (pc := 441) X dL_law_441 rfl rfl ?_
  refine r_arg (pc := 442) (k := 1) X C (by omega) rfl rfl dL_law_442 dL_law_443 dL_law_444 dL_law_445 dL_law_446 ?_
  refine r_cW (pc := 447) hG (fun _ hg => runV X dL_law_447 (c_X8_chance Hb8 hg) mM_L_54 mI_X8_chance mE_X8_chance mN_X8 mK_X8_chance (at_X8_o Hb8) rfl rfl rfl rfl hdd_X8_chance ⟨(Nat.le_of_ble_eq_true rfl), (Nat.le_of_ble_eq_true rfl)⟩ rfl rfl (Nat.le_of_ble_eq_true rfl) ⟨(Nat.le_of_ble_eq_true rfl), (Nat.le_of_ble_eq_true rfl)⟩) (fun Z1 g1 hG => ?_)
  refine r_aload_n (pc := 450) X dL_law_450 rfl rfl ?_
  refine r_arg (pc := 451) (k := 1) X C (by omega) rfl rfl dL_law_451 dL_law_452 dL_law_453 dL_law_454 dL_law_455 ?_
  refine r_cW (pc := 456) hG (fun _ hg => runV X dL_law_456 (c_X9_chance Hb9 hg) mM_L_57 mI_X9_chance mE_X9_chance mN_X9 mK_X9_chance (at_X9_o Hb9) rfl rfl rfl rfl hdd_X9_chance ⟨(Nat.le_of_ble_eq_true rfl), (Nat.le_of_ble_eq_true rfl)⟩ rfl rfl (Nat.le_of_ble_eq_true rfl) ⟨(Nat.le_of_ble_eq_true rfl), (Nat.le_of_ble_eq_true rfl)⟩) (fun Z2 g2 hG => ?_)
  refine r_icmp_eq (pc := 459) X dL_law_459 (tgt := 1394) (by decide) hG (fun hG => ?_) (fun hG => by cases hG)
  injection hG with hG
  rw [hG]
  exact kk
set_option maxRecDepth 100000 in
set_option maxHeartbeats 4000000 in
theorem lc_work (X : Cx E p s m args meth c cL_law RL 4 ret) (Hb8 : At_X8 shl) (Hb9 : At_X9 shl) (C : SC E s b Ln xs iv i) (hG : (cW (g_X8_work (xs (i + 1)).toInt h) fun z1 h1 => cW (g_X9_work (xs (i + 1)).toInt h1) fun z2 h2 => if z1 = z2 then some h2 else none) = some res) (kk : Ev E ad shl p l e room_1 s m args below meth c 600000 7302250 Q 4 res 1394 (LL b ad iv) []) : Ev E ad shl p l e room_1 s m args below meth c 600000 7302250 Q 4 h 464 (LL b ad iv) [] := by
  refine r_aload_n (pc := 464) X dL_law_464 rfl rfl ?_
  refine r_arg (pc := 465) (k := 1) X C (by omega) rfl rfl dL_law_465 dL_law_466 dL_law_467 dL_law_468 dL_law_469 ?_
  refine r_cW (pc := 470) hG (fun _ hg => runV X dL_law_470 (c_X8_work Hb8 hg) mM_L_58 mI_X8_work mE_X8_work mN_X8 mK_X8_work (at_X8_o Hb8) rfl rfl rfl rfl hdd_X8_work ⟨(Nat.le_of_ble_eq_true rfl), (Nat.le_of_ble_eq_true rfl)⟩ rfl rfl (Nat.le_of_ble_eq_true rfl) ⟨(Nat.le_of_ble_eq_true rfl), (Nat.le_of_ble_eq_true rfl)⟩) (fun Z1 g1 hG => ?_)
  refine r_aload_n (pc := 473) X dL_law_473 rfl rfl ?_
  refine r_arg (pc := 474) (k := 1) X C (by omega) rfl rfl dL_law_474 dL_law_475 dL_law_476 dL_law_477 dL_law_478 ?_
  refine r_cW (pc := 479) hG (fun _ hg => runV X dL_law_479 (c_X9_work Hb9 hg) mM_L_61 mI_X9_work mE_X9_work mN_X9 mK_X9_work (at_X9_o Hb9) rfl rfl rfl rfl hdd_X9_work ⟨(Nat.le_of_ble_eq_true rfl), (Nat.le_of_ble_eq_true rfl)⟩ rfl rfl (Nat.le_of_ble_eq_true rfl) ⟨(Nat.le_of_ble_eq_true rfl), (Nat.le_of_ble_eq_true rfl)⟩) (fun Z2 g2 hG => ?_)
  refine r_icmp_eq (pc := 482) X dL_law_482 (tgt := 1394) (by decide) hG (fun hG => ?_) (fun hG => by cases hG)
  injection hG with hG
  rw [hG]
  exact kk
set_option maxRecDepth 100000 in
set_option maxHeartbeats 4000000 in
theorem lc_pass (X : Cx E p s m args meth c cL_law RL 4 ret) (Hb8 : At_X8 shl) (Hb9 : At_X9 shl) (C : SC E s b Ln xs iv i) (hG : (cW (g_X8_pass (xs (i + 1)).toInt h) fun z1 h1 => cW (g_X9_pass (xs (i + 1)).toInt h1) fun z2 h2 => if z1 = z2 then some h2 else none) = some res) (kk : Ev E ad shl p l e room_1 s m args below meth c 600000 7302250 Q 4 res 1394 (LL b ad iv) []) : Ev E ad shl p l e room_1 s m args below meth c 600000 7302250 Q 4 h 487 (LL b ad iv) [] := by
  refine r_aload_n (pc := 487) X dL_law_487 rfl rfl ?_
  refine r_arg (pc := 488) (k := 1) X C (by omega) rfl rfl dL_law_488 dL_law_489 dL_law_490 dL_law_491 dL_law_492 ?_
  refine r_cW (pc := 493) hG (fun _ hg => runV X dL_law_493 (c_X8_pass Hb8 hg) mM_L_62 mI_X8_pass mE_X8_pass mN_X8 mK_X8_pass (at_X8_o Hb8) rfl rfl rfl rfl hdd_X8_pass ⟨(Nat.le_of_ble_eq_true rfl), (Nat.le_of_ble_eq_true rfl)⟩ rfl rfl (Nat.le_of_ble_eq_true rfl) ⟨(Nat.le_of_ble_eq_true rfl), (Nat.le_of_ble_eq_true rfl)⟩) (fun Z1 g1 hG => ?_)
  refine r_aload_n (pc := 496) X dL_law_496 rfl rfl ?_
  refine r_arg (pc := 497) (k := 1) X C (by omega) rfl rfl dL_law_497 dL_law_498 dL_law_499 dL_law_500 dL_law_501 ?_
  refine r_cW (pc := 502) hG (fun _ hg => runV X dL_law_502 (c_X9_pass Hb9 hg) mM_L_65 mI_X9_pass mE_X9_pass mN_X9 mK_X9_pass (at_X9_o Hb9) rfl rfl rfl rfl hdd_X9_pass ⟨(Nat.le_of_ble_eq_true rfl), (Nat.le_of_ble_eq_true rfl)⟩ rfl rfl (Nat.le_of_ble_eq_true rfl) ⟨(Nat.le_of_ble_eq_true rfl), (Nat.le_of_ble_eq_true rfl)⟩) (fun Z2 g2 hG => ?_)
  refine r_icmp_eq (pc := 505) X dL_law_505 (tgt := 1394) (by decide) hG (fun hG => ?_) (fun hG => by cases hG)
  injection hG with hG
  rw [hG]
  exact kk
set_option maxRecDepth 100000 in
set_option maxHeartbeats 4000000 in
theorem lc_cell (X : Cx E p s m args meth c cL_law RL 4 ret) (Hb8 : At_X8 shl) (Hb9 : At_X9 shl) (C : SC E s b Ln xs iv i) (hG : (cP (g_X8_cell (xs (i + 1)).toInt (xs (i + 2)).toInt (xs (i + 3)).toInt h) fun z1 => cP (g_X9_cell (xs (i + 1)).toInt (xs (i + 2)).toInt (xs (i + 3)).toInt h) fun z2 => if z1 = z2 then some h else none) = some res) (kk : Ev E ad shl p l e room_1 s m args below meth c 600000 7302250 Q 4 res 1394 (LL b ad iv) []) : Ev E ad shl p l e room_1 s m args below meth c 600000 7302250 Q 4 h 510 (LL b ad iv) [] := by
  refine r_aload_n (pc := 510) X dL_law_510 rfl rfl ?_
  refine r_arg (pc := 511) (k := 1) X C (by omega) rfl rfl dL_law_511 dL_law_512 dL_law_513 dL_law_514 dL_law_515 ?_
  refine r_arg (pc := 516) (k := 2) X C (by omega) rfl rfl dL_law_516 dL_law_517 dL_law_518 dL_law_519 dL_law_520 ?_
  refine r_arg (pc := 521) (k := 3) X C (by omega) rfl rfl dL_law_521 dL_law_522 dL_law_523 dL_law_524 dL_law_525 ?_
  refine r_cP (pc := 526) hG (fun _ hg => runV X dL_law_526 (c_X8_cell Hb8 hg) mM_L_66 mI_X8_cell mE_X8_cell mN_X8 mK_X8_cell (at_X8_o Hb8) rfl rfl rfl rfl hdd_X8_cell ⟨(Nat.le_of_ble_eq_true rfl), (Nat.le_of_ble_eq_true rfl)⟩ rfl rfl (Nat.le_of_ble_eq_true rfl) ⟨(Nat.le_of_ble_eq_true rfl), (Nat.le_of_ble_eq_true rfl)⟩) (fun Z1 hG => ?_)
  refine r_aload_n (pc := 529) X dL_law_529 rfl rfl ?_
  refine r_arg (pc := 530) (k := 1) X C (by omega) rfl rfl dL_law_530 dL_law_531 dL_law_532 dL_law_533 dL_law_534 ?_
  refine r_arg (pc := 535) (k := 2) X C (by omega) rfl rfl dL_law_535 dL_law_536 dL_law_537 dL_law_538 dL_law_539 ?_
  refine r_arg (pc := 540) (k := 3) X C (by omega) rfl rfl dL_law_540 dL_law_541 dL_law_542 dL_law_543 dL_law_544 ?_
  refine r_cP (pc := 545) hG (fun _ hg => runV X dL_law_545 (c_X9_cell Hb9 hg) mM_L_70 mI_X9_cell mE_X9_cell mN_X9 mK_X9_cell (at_X9_o Hb9) rfl rfl rfl rfl hdd_X9_cell ⟨(Nat.le_of_ble_eq_true rfl), (Nat.le_of_ble_eq_true rfl)⟩ rfl rfl (Nat.le_of_ble_eq_true rfl) ⟨(Nat.le_of_ble_eq_true rfl), (Nat.le_of_ble_eq_true rfl)⟩) (fun Z2 hG => ?_)
  refine r_icmp_eq (pc := 548) X dL_law_548 (tgt := 1394) (by decide) hG (fun hG => ?_) (fun hG => by cases hG)
  injection hG with hG
  rw [hG]
  exact kk
set_option maxRecDepth 100000 in
set_option maxHeartbeats 4000000 in
theorem lc_flag (X : Cx E p s m args meth c cL_law RL 4 ret) (Hb8 : At_X8 shl) (Hb9 : At_X9 shl) (C : SC E s b Ln xs iv i) (hG : (cP (g_X8_flag (xs (i + 1)).toInt (xs (i + 2)).toInt h) fun z1 => cP (g_X9_flag (xs (i + 1)).toInt (xs (i + 2)).toInt h) fun z2 => if z1 = z2 then some h else none) = some res) (kk : Ev E ad shl p l e room_1 s m args below meth c 600000 7302250 Q 4 res 1394 (LL b ad iv) []) : Ev E ad shl p l e room_1 s m args below meth c 600000 7302250 Q 4 h 553 (LL b ad iv) [] := by
  refine r_aload_n (pc := 553) X dL_law_553 rfl rfl ?_
  refine r_arg (pc := 554) (k := 1) X C (by omega) rfl rfl dL_law_554 dL_law_555 dL_law_556 dL_law_557 dL_law_558 ?_
  refine r_arg (pc := 559) (k := 2) X C (by omega) rfl rfl dL_law_559 dL_law_560 dL_law_561 dL_law_562 dL_law_563 ?_
  refine r_cP (pc := 564) hG (fun _ hg => runV X dL_law_564 (c_X8_flag Hb8 hg) mM_L_71 mI_X8_flag mE_X8_flag mN_X8 mK_X8_flag (at_X8_o Hb8) rfl rfl rfl rfl hdd_X8_flag ⟨(Nat.le_of_ble_eq_true rfl), (Nat.le_of_ble_eq_true rfl)⟩ rfl rfl (Nat.le_of_ble_eq_true rfl) ⟨(Nat.le_of_ble_eq_true rfl), (Nat.le_of_ble_eq_true rfl)⟩) (fun Z1 hG => ?_)
  refine r_aload_n (pc := 567) X dL_law_567 rfl rfl ?_
  refine r_arg (pc := 568) (k := 1) X C (by omega) rfl rfl dL_law_568 dL_law_569 dL_law_570 dL_law_571 dL_law_572 ?_
  refine r_arg (pc := 573) (k := 2) X C (by omega) rfl rfl dL_law_573 dL_law_574 dL_law_575 dL_law_576 dL_law_577 ?_
  refine r_cP (pc := 578) hG (fun _ hg => runV X dL_law_578 (c_X9_flag Hb9 hg) mM_L_74 mI_X9_flag mE_X9_flag mN_X9 mK_X9_flag (at_X9_o Hb9) rfl rfl rfl rfl hdd_X9_flag ⟨(Nat.le_of_ble_eq_true rfl), (Nat.le_of_ble_eq_true rfl)⟩ rfl rfl (Nat.le_of_ble_eq_true rfl) ⟨(Nat.le_of_ble_eq_true rfl), (Nat.le_of_ble_eq_true rfl)⟩) (fun Z2 hG => ?_)
  refine r_icmp_eq (pc := 581) X dL_law_581 (tgt := 1394) (by decide) hG (fun hG => ?_) (fun hG => by cases hG)
  injection hG with hG
  rw [hG]
  exact kk
set_option maxRecDepth 100000 in
set_option maxHeartbeats 4000000 in
theorem lc_sum (X : Cx E p s m args meth c cL_law RL 4 ret) (Hb8 : At_X8 shl) (Hb9 : At_X9 shl) (C : SC E s b Ln xs iv i) (hG : (cP (g_X8_sum (xs (i + 1)).toInt h) fun z1 => cP (g_X9_sum (xs (i + 1)).toInt h) fun z2 => if z1 = z2 then some h else none) = some res) (kk : Ev E ad shl p l e room_1 s m args below meth c 600000 7302250 Q 4 res 1394 (LL b ad iv) []) : Ev E ad shl p l e room_1 s m args below meth c 600000 7302250 Q 4 h 586 (LL b ad iv) [] := by
  refine r_aload_n (pc := 586) X dL_law_586 rfl rfl ?_
  refine r_arg (pc := 587) (k := 1) X C (by omega) rfl rfl dL_law_587 dL_law_588 dL_law_589 dL_law_590 dL_law_591 ?_
  refine r_cP (pc := 592) hG (fun _ hg => runV X dL_law_592 (c_X8_sum Hb8 hg) mM_L_75 mI_X8_sum mE_X8_sum mN_X8 mK_X8_sum (at_X8_o Hb8) rfl rfl rfl rfl hdd_X8_sum ⟨(Nat.le_of_ble_eq_true rfl), (Nat.le_of_ble_eq_true rfl)⟩ rfl rfl (Nat.le_of_ble_eq_true rfl) ⟨(Nat.le_of_ble_eq_true rfl), (Nat.le_of_ble_eq_true rfl)⟩) (fun Z1 hG => ?_)
  refine r_aload_n (pc := 595) X dL_law_595 rfl rfl ?_
  refine r_arg (pc := 596) (k := 1) X C (by omega) rfl rfl dL_law_596 dL_law_597 dL_law_598 dL_law_599 dL_law_600 ?_
  refine r_cP (pc := 601) hG (fun _ hg => runV X dL_law_601 (c_X9_sum Hb9 hg) mM_L_78 mI_X9_sum mE_X9_sum mN_X9 mK_X9_sum (at_X9_o Hb9) rfl rfl rfl rfl hdd_X9_sum ⟨(Nat.le_of_ble_eq_true rfl), (Nat.le_of_ble_eq_true rfl)⟩ rfl rfl (Nat.le_of_ble_eq_true rfl) ⟨(Nat.le_of_ble_eq_true rfl), (Nat.le_of_ble_eq_true rfl)⟩) (fun Z2 hG => ?_)
  refine r_icmp_eq (pc := 604) X dL_law_604 (tgt := 1394) (by decide) hG (fun hG => ?_) (fun hG => by cases hG)
  injection hG with hG
  rw [hG]
  exact kk
set_option maxRecDepth 100000 in
set_option maxHeartbeats 4000000 in
theorem lc_keep (X : Cx E p s m args meth c cL_law RL 4 ret) (Hb8 : At_X8 shl) (Hb9 : At_X9 shl) (C : SC E s b Ln xs iv i) (hG : (cW (g_X8_keep (xs (i + 1)).toInt h) fun z1 h1 => cW (g_X9_keep (xs (i + 1)).toInt h1) fun z2 h2 => if z1 = z2 then some h2 else none) = some res) (kk : Ev E ad shl p l e room_1 s m args below meth c 600000 7302250 Q 4 res 1394 (LL b ad iv) []) : Ev E ad shl p l e room_1 s m args below meth c 600000 7302250 Q 4 h 609 (LL b ad iv) [] := by
  refine r_aload_n (pc := 609) X dL_law_609 rfl rfl ?_
  refine r_arg (pc := 610) (k := 1) X C (by omega) rfl rfl dL_law_610 dL_law_611 dL_law_612 dL_law_613 dL_law_614 ?_
  refine r_cW (pc := 615) hG (fun _ hg => runV X dL_law_615 (c_X8_keep Hb8 hg) mM_L_79 mI_X8_keep mE_X8_keep mN_X8 mK_X8_keep (at_X8_o Hb8) rfl rfl rfl rfl hdd_X8_keep ⟨(Nat.le_of_ble_eq_true rfl), (Nat.le_of_ble_eq_true rfl)⟩ rfl rfl (Nat.le_of_ble_eq_true rfl) ⟨(Nat.le_of_ble_eq_true rfl), (Nat.le_of_ble_eq_true rfl)⟩) (fun Z1 g1 hG => ?_)
  refine r_aload_n (pc := 618) X dL_law_618 rfl rfl ?_
  refine r_arg (pc := 619) (k := 1) X C (by omega) rfl rfl dL_law_619 dL_law_620 dL_law_621 dL_law_622 dL_law_623 ?_
  refine r_cW (pc := 624) hG (fun _ hg => runV X dL_law_624 (c_X9_keep Hb9 hg) mM_L_82 mI_X9_keep mE_X9_keep mN_X9 mK_X9_keep (at_X9_o Hb9) rfl rfl rfl rfl hdd_X9_keep ⟨(Nat.le_of_ble_eq_true rfl), (Nat.le_of_ble_eq_true rfl)⟩ rfl rfl (Nat.le_of_ble_eq_true rfl) ⟨(Nat.le_of_ble_eq_true rfl), (Nat.le_of_ble_eq_true rfl)⟩) (fun Z2 g2 hG => ?_)
  refine r_icmp_eq (pc := 627) X dL_law_627 (tgt := 1394) (by decide) hG (fun hG => ?_) (fun hG => by cases hG)
  injection hG with hG
  rw [hG]
  exact kk
set_option maxRecDepth 100000 in
set_option maxHeartbeats 4000000 in
theorem lc_take (X : Cx E p s m args meth c cL_law RL 4 ret) (Hb8 : At_X8 shl) (Hb9 : At_X9 shl) (C : SC E s b Ln xs iv i) (hG : (cW (g_X8_take (xs (i + 1)).toInt h) fun z1 h1 => cW (g_X9_take (xs (i + 1)).toInt h1) fun z2 h2 => if z1 = z2 then some h2 else none) = some res) (kk : Ev E ad shl p l e room_1 s m args below meth c 600000 7302250 Q 4 res 1394 (LL b ad iv) []) : Ev E ad shl p l e room_1 s m args below meth c 600000 7302250 Q 4 h 632 (LL b ad iv) [] := by
  refine r_aload_n (pc := 632) X dL_law_632 rfl rfl ?_
  refine r_arg (pc := 633) (k := 1) X C (by omega) rfl rfl dL_law_633 dL_law_634 dL_law_635 dL_law_636 dL_law_637 ?_
  refine r_cW (pc := 638) hG (fun _ hg => runV X dL_law_638 (c_X8_take Hb8 hg) mM_L_83 mI_X8_take mE_X8_take mN_X8 mK_X8_take (at_X8_o Hb8) rfl rfl rfl rfl hdd_X8_take ⟨(Nat.le_of_ble_eq_true rfl), (Nat.le_of_ble_eq_true rfl)⟩ rfl rfl (Nat.le_of_ble_eq_true rfl) ⟨(Nat.le_of_ble_eq_true rfl), (Nat.le_of_ble_eq_true rfl)⟩) (fun Z1 g1 hG => ?_)
  refine r_aload_n (pc := 641) X dL_law_641 rfl rfl ?_
  refine r_arg (pc := 642) (k := 1) X C (by omega) rfl rfl dL_law_642 dL_law_643 dL_law_644 dL_law_645 dL_law_646 ?_
  refine r_cW (pc := 647) hG (fun _ hg => runV X dL_law_647 (c_X9_take Hb9 hg) mM_L_86 mI_X9_take mE_X9_take mN_X9 mK_X9_take (at_X9_o Hb9) rfl rfl rfl rfl hdd_X9_take ⟨(Nat.le_of_ble_eq_true rfl), (Nat.le_of_ble_eq_true rfl)⟩ rfl rfl (Nat.le_of_ble_eq_true rfl) ⟨(Nat.le_of_ble_eq_true rfl), (Nat.le_of_ble_eq_true rfl)⟩) (fun Z2 g2 hG => ?_)
  refine r_icmp_eq (pc := 650) X dL_law_650 (tgt := 1394) (by decide) hG (fun hG => ?_) (fun hG => by cases hG)
  injection hG with hG
  rw [hG]
  exact kk
set_option maxRecDepth 100000 in
set_option maxHeartbeats 4000000 in
theorem lc_holds (X : Cx E p s m args meth c cL_law RL 4 ret) (Hb8 : At_X8 shl) (Hb9 : At_X9 shl) (C : SC E s b Ln xs iv i) (hG : (cP (g_X8_holds (xs (i + 1)).toInt (xs (i + 2)).toInt h) fun z1 => cP (g_X9_holds (xs (i + 1)).toInt (xs (i + 2)).toInt h) fun z2 => if z1 = z2 then some h else none) = some res) (kk : Ev E ad shl p l e room_1 s m args below meth c 600000 7302250 Q 4 res 1394 (LL b ad iv) []) : Ev E ad shl p l e room_1 s m args below meth c 600000 7302250 Q 4 h 655 (LL b ad iv) [] := by
  refine r_aload_n (pc := 655) X dL_law_655 rfl rfl ?_
  refine r_arg (pc := 656) (k := 1) X C (by omega) rfl rfl dL_law_656 dL_law_657 dL_law_658 dL_law_659 dL_law_660 ?_
  refine r_arg (pc := 661) (k := 2) X C (by omega) rfl rfl dL_law_661 dL_law_662 dL_law_663 dL_law_664 dL_law_665 ?_
  refine r_cP (pc := 666) hG (fun _ hg => runV X dL_law_666 (c_X8_holds Hb8 hg) mM_L_87 mI_X8_holds mE_X8_holds mN_X8 mK_X8_holds (at_X8_o Hb8) rfl rfl rfl rfl hdd_X8_holds ⟨(Nat.le_of_ble_eq_true rfl), (Nat.le_of_ble_eq_true rfl)⟩ rfl rfl (Nat.le_of_ble_eq_true rfl) ⟨(Nat.le_of_ble_eq_true rfl), (Nat.le_of_ble_eq_true rfl)⟩) (fun Z1 hG => ?_)
  refine r_aload_n (pc := 669) X dL_law_669 rfl rfl ?_
  refine r_arg (pc := 670) (k := 1) X C (by omega) rfl rfl dL_law_670 dL_law_671 dL_law_672 dL_law_673 dL_law_674 ?_
  refine r_arg (pc := 675) (k := 2) X C (by omega) rfl rfl dL_law_675 dL_law_676 dL_law_677 dL_law_678 dL_law_679 ?_
  refine r_cP (pc := 680) hG (fun _ hg => runV X dL_law_680 (c_X9_holds Hb9 hg) mM_L_90 mI_X9_holds mE_X9_holds mN_X9 mK_X9_holds (at_X9_o Hb9) rfl rfl rfl rfl hdd_X9_holds ⟨(Nat.le_of_ble_eq_true rfl), (Nat.le_of_ble_eq_true rfl)⟩ rfl rfl (Nat.le_of_ble_eq_true rfl) ⟨(Nat.le_of_ble_eq_true rfl), (Nat.le_of_ble_eq_true rfl)⟩) (fun Z2 hG => ?_)
  refine r_icmp_eq (pc := 683) X dL_law_683 (tgt := 1394) (by decide) hG (fun hG => ?_) (fun hG => by cases hG)
  injection hG with hG
  rw [hG]
  exact kk
set_option maxRecDepth 100000 in
set_option maxHeartbeats 4000000 in
theorem lc_high (X : Cx E p s m args meth c cL_law RL 4 ret) (Hb8 : At_X8 shl) (Hb9 : At_X9 shl) (C : SC E s b Ln xs iv i) (hG : (cP (g_X8_high (xs (i + 1)).toInt (xs (i + 2)).toInt (xs (i + 3)).toInt h) fun z1 => cP (g_X9_high (xs (i + 1)).toInt (xs (i + 2)).toInt (xs (i + 3)).toInt h) fun z2 => if z1 = z2 then some h else none) = some res) (kk : Ev E ad shl p l e room_1 s m args below meth c 600000 7302250 Q 4 res 1394 (LL b ad iv) []) : Ev E ad shl p l e room_1 s m args below meth c 600000 7302250 Q 4 h 688 (LL b ad iv) [] := by
  refine r_aload_n (pc := 688) X dL_law_688 rfl rfl ?_
  refine r_arg (pc := 689) (k := 1) X C (by omega) rfl rfl dL_law_689 dL_law_690 dL_law_691 dL_law_692 dL_law_693 ?_
  refine r_arg (pc := 694) (k := 2) X C (by omega) rfl rfl dL_law_694 dL_law_695 dL_law_696 dL_law_697 dL_law_698 ?_
  refine r_arg (pc := 699) (k := 3) X C (by omega) rfl rfl dL_law_699 dL_law_700 dL_law_701 dL_law_702 dL_law_703 ?_
  refine r_cP (pc := 704) hG (fun _ hg => runV X dL_law_704 (c_X8_high Hb8 hg) mM_L_91 mI_X8_high mE_X8_high mN_X8 mK_X8_high (at_X8_o Hb8) rfl rfl rfl rfl hdd_X8_high ⟨(Nat.le_of_ble_eq_true rfl), (Nat.le_of_ble_eq_true rfl)⟩ rfl rfl (Nat.le_of_ble_eq_true rfl) ⟨(Nat.le_of_ble_eq_true rfl), (Nat.le_of_ble_eq_true rfl)⟩) (fun Z1 hG => ?_)
  refine r_aload_n (pc := 707) X dL_law_707 rfl rfl ?_
  refine r_arg (pc := 708) (k := 1) X C (by omega) rfl rfl dL_law_708 dL_law_709 dL_law_710 dL_law_711 dL_law_712 ?_
  refine r_arg (pc := 713) (k := 2) X C (by omega) rfl rfl dL_law_713 dL_law_714 dL_law_715 dL_law_716 dL_law_717 ?_
  refine r_arg (pc := 718) (k := 3) X C (by omega) rfl rfl dL_law_718 dL_law_719 dL_law_720 dL_law_721 dL_law_722 ?_
  refine r_cP (pc := 723) hG (fun _ hg => runV X dL_law_723 (c_X9_high Hb9 hg) mM_L_94 mI_X9_high mE_X9_high mN_X9 mK_X9_high (at_X9_o Hb9) rfl rfl rfl rfl hdd_X9_high ⟨(Nat.le_of_ble_eq_true rfl), (Nat.le_of_ble_eq_true rfl)⟩ rfl rfl (Nat.le_of_ble_eq_true rfl) ⟨(Nat.le_of_ble_eq_true rfl), (Nat.le_of_ble_eq_true rfl)⟩) (fun Z2 hG => ?_)
  refine r_icmp_eq (pc := 726) X dL_law_726 (tgt := 1394) (by decide) hG (fun hG => ?_) (fun hG => by cases hG)
  injection hG with hG
  rw [hG]
  exact kk
set_option maxRecDepth 100000 in
set_option maxHeartbeats 4000000 in
theorem lc_spill (X : Cx E p s m args meth c cL_law RL 4 ret) (Hb8 : At_X8 shl) (Hb9 : At_X9 shl) (C : SC E s b Ln xs iv i) (hG : (cW (g_X8_spill (xs (i + 1)).toInt (xs (i + 2)).toInt (xs (i + 3)).toInt (xs (i + 4)).toInt h) fun z1 h1 => cW (g_X9_spill (xs (i + 1)).toInt (xs (i + 2)).toInt (xs (i + 3)).toInt (xs (i + 4)).toInt h1) fun z2 h2 => if z1 = z2 then some h2 else none) = some res) (kk : Ev E ad shl p l e room_1 s m args below meth c 600000 7302250 Q 4 res 1394 (LL b ad iv) []) : Ev E ad shl p l e room_1 s m args below meth c 600000 7302250 Q 4 h 731 (LL b ad iv) [] := by
  refine r_aload_n (pc := 731) X dL_law_731 rfl rfl ?_
  refine r_arg (pc := 732) (k := 1) X C (by omega) rfl rfl dL_law_732 dL_law_733 dL_law_734 dL_law_735 dL_law_736 ?_
  refine r_arg (pc := 737) (k := 2) X C (by omega) rfl rfl dL_law_737 dL_law_738 dL_law_739 dL_law_740 dL_law_741 ?_
  refine r_arg (pc := 742) (k := 3) X C (by omega) rfl rfl dL_law_742 dL_law_743 dL_law_744 dL_law_745 dL_law_746 ?_
  refine r_arg (pc := 747) (k := 4) X C (by omega) rfl rfl dL_law_747 dL_law_748 dL_law_749 dL_law_750 dL_law_751 ?_
  refine r_cW (pc := 752) hG (fun _ hg => runV X dL_law_752 (c_X8_spill Hb8 hg) mM_L_95 mI_X8_spill mE_X8_spill mN_X8 mK_X8_spill (at_X8_o Hb8) rfl rfl rfl rfl hdd_X8_spill ⟨(Nat.le_of_ble_eq_true rfl), (Nat.le_of_ble_eq_true rfl)⟩ rfl rfl (Nat.le_of_ble_eq_true rfl) ⟨(Nat.le_of_ble_eq_true rfl), (Nat.le_of_ble_eq_true rfl)⟩) (fun Z1 g1 hG => ?_)
  refine r_aload_n (pc := 755) X dL_law_755 rfl rfl ?_
  refine r_arg (pc := 756) (k := 1) X C (by omega) rfl rfl dL_law_756 dL_law_757 dL_law_758 dL_law_759 dL_law_760 ?_
  refine r_arg (pc := 761) (k := 2) X C (by omega) rfl rfl dL_law_761 dL_law_762 dL_law_763 dL_law_764 dL_law_765 ?_
  refine r_arg (pc := 766) (k := 3) X C (by omega) rfl rfl dL_law_766 dL_law_767 dL_law_768 dL_law_769 dL_law_770 ?_
  refine r_arg (pc := 771) (k := 4) X C (by omega) rfl rfl dL_law_771 dL_law_772 dL_law_773 dL_law_774 dL_law_775 ?_
  refine r_cW (pc := 776) hG (fun _ hg => runV X dL_law_776 (c_X9_spill Hb9 hg) mM_L_98 mI_X9_spill mE_X9_spill mN_X9 mK_X9_spill (at_X9_o Hb9) rfl rfl rfl rfl hdd_X9_spill ⟨(Nat.le_of_ble_eq_true rfl), (Nat.le_of_ble_eq_true rfl)⟩ rfl rfl (Nat.le_of_ble_eq_true rfl) ⟨(Nat.le_of_ble_eq_true rfl), (Nat.le_of_ble_eq_true rfl)⟩) (fun Z2 g2 hG => ?_)
  refine r_icmp_eq (pc := 779) X dL_law_779 (tgt := 1394) (by decide) hG (fun hG => ?_) (fun hG => by cases hG)
  injection hG with hG
  rw [hG]
  exact kk
set_option maxRecDepth 100000 in
set_option maxHeartbeats 4000000 in
theorem lc_trial (X : Cx E p s m args meth c cL_law RL 4 ret) (Hb8 : At_X8 shl) (Hb9 : At_X9 shl) (C : SC E s b Ln xs iv i) (hG : (cW (g_X8_trial (xs (i + 1)).toInt (xs (i + 2)).toInt (xs (i + 3)).toInt (xs (i + 4)).toInt h) fun z1 h1 => cW (g_X9_trial (xs (i + 1)).toInt (xs (i + 2)).toInt (xs (i + 3)).toInt (xs (i + 4)).toInt h1) fun z2 h2 => if z1 = z2 then some h2 else none) = some res) (kk : Ev E ad shl p l e room_1 s m args below meth c 600000 7302250 Q 4 res 1394 (LL b ad iv) []) : Ev E ad shl p l e room_1 s m args below meth c 600000 7302250 Q 4 h 784 (LL b ad iv) [] := by
  refine r_aload_n (pc := 784) X dL_law_784 rfl rfl ?_
  refine r_arg (pc := 785) (k := 1) X C (by omega) rfl rfl dL_law_785 dL_law_786 dL_law_787 dL_law_788 dL_law_789 ?_
  refine r_arg (pc := 790) (k := 2) X C (by omega) rfl rfl dL_law_790 dL_law_791 dL_law_792 dL_law_793 dL_law_794 ?_
  refine r_arg (pc := 795) (k := 3) X C (by omega) rfl rfl dL_law_795 dL_law_796 dL_law_797 dL_law_798 dL_law_799 ?_
  refine r_arg (pc := 800) (k := 4) X C (by omega) rfl rfl dL_law_800 dL_law_801 dL_law_802 dL_law_803 dL_law_804 ?_
  refine r_cW (pc := 805) hG (fun _ hg => runV X dL_law_805 (c_X8_trial Hb8 hg) mM_L_99 mI_X8_trial mE_X8_trial mN_X8 mK_X8_trial (at_X8_o Hb8) rfl rfl rfl rfl hdd_X8_trial ⟨(Nat.le_of_ble_eq_true rfl), (Nat.le_of_ble_eq_true rfl)⟩ rfl rfl (Nat.le_of_ble_eq_true rfl) ⟨(Nat.le_of_ble_eq_true rfl), (Nat.le_of_ble_eq_true rfl)⟩) (fun Z1 g1 hG => ?_)
  refine r_aload_n (pc := 808) X dL_law_808 rfl rfl ?_
  refine r_arg (pc := 809) (k := 1) X C (by omega) rfl rfl dL_law_809 dL_law_810 dL_law_811 dL_law_812 dL_law_813 ?_
  refine r_arg (pc := 814) (k := 2) X C (by omega) rfl rfl dL_law_814 dL_law_815 dL_law_816 dL_law_817 dL_law_818 ?_
  refine r_arg (pc := 819) (k := 3) X C (by omega) rfl rfl dL_law_819 dL_law_820 dL_law_821 dL_law_822 dL_law_823 ?_
  refine r_arg (pc := 824) (k := 4) X C (by omega) rfl rfl dL_law_824 dL_law_825 dL_law_826 dL_law_827 dL_law_828 ?_
  refine r_cW (pc := 829) hG (fun _ hg => runV X dL_law_829 (c_X9_trial Hb9 hg) mM_L_102 mI_X9_trial mE_X9_trial mN_X9 mK_X9_trial (at_X9_o Hb9) rfl rfl rfl rfl hdd_X9_trial ⟨(Nat.le_of_ble_eq_true rfl), (Nat.le_of_ble_eq_true rfl)⟩ rfl rfl (Nat.le_of_ble_eq_true rfl) ⟨(Nat.le_of_ble_eq_true rfl), (Nat.le_of_ble_eq_true rfl)⟩) (fun Z2 g2 hG => ?_)
  refine r_icmp_eq (pc := 832) X dL_law_832 (tgt := 1394) (by decide) hG (fun hG => ?_) (fun hG => by cases hG)
  injection hG with hG
  rw [hG]
  exact kk
set_option maxRecDepth 100000 in
set_option maxHeartbeats 4000000 in
theorem lc_right (X : Cx E p s m args meth c cL_law RL 4 ret) (Hb8 : At_X8 shl) (Hb9 : At_X9 shl) (C : SC E s b Ln xs iv i) (hG : (cW (g_X8_right (xs (i + 1)).toInt (xs (i + 2)).toInt (xs (i + 3)).toInt h) fun z1 h1 => cW (g_X9_right (xs (i + 1)).toInt (xs (i + 2)).toInt (xs (i + 3)).toInt h1) fun z2 h2 => if z1 = z2 then some h2 else none) = some res) (kk : Ev E ad shl p l e room_1 s m args below meth c 600000 7302250 Q 4 res 1394 (LL b ad iv) []) : Ev E ad shl p l e room_1 s m args below meth c 600000 7302250 Q 4 h 837 (LL b ad iv) [] := by
  refine r_aload_n (pc := 837) X dL_law_837 rfl rfl ?_
  refine r_arg (pc := 838) (k := 1) X C (by omega) rfl rfl dL_law_838 dL_law_839 dL_law_840 dL_law_841 dL_law_842 ?_
  refine r_arg (pc := 843) (k := 2) X C (by omega) rfl rfl dL_law_843 dL_law_844 dL_law_845 dL_law_846 dL_law_847 ?_
  refine r_arg (pc := 848) (k := 3) X C (by omega) rfl rfl dL_law_848 dL_law_849 dL_law_850 dL_law_851 dL_law_852 ?_
  refine r_cW (pc := 853) hG (fun _ hg => runV X dL_law_853 (c_X8_right Hb8 hg) mM_L_103 mI_X8_right mE_X8_right mN_X8 mK_X8_right (at_X8_o Hb8) rfl rfl rfl rfl hdd_X8_right ⟨(Nat.le_of_ble_eq_true rfl), (Nat.le_of_ble_eq_true rfl)⟩ rfl rfl (Nat.le_of_ble_eq_true rfl) ⟨(Nat.le_of_ble_eq_true rfl), (Nat.le_of_ble_eq_true rfl)⟩) (fun Z1 g1 hG => ?_)
  refine r_aload_n (pc := 856) X dL_law_856 rfl rfl ?_
  refine r_arg (pc := 857) (k := 1) X C (by omega) rfl rfl dL_law_857 dL_law_858 dL_law_859 dL_law_860 dL_law_861 ?_
  refine r_arg (pc := 862) (k := 2) X C (by omega) rfl rfl dL_law_862 dL_law_863 dL_law_864 dL_law_865 dL_law_866 ?_
  refine r_arg (pc := 867) (k := 3) X C (by omega) rfl rfl dL_law_867 dL_law_868 dL_law_869 dL_law_870 dL_law_871 ?_
  refine r_cW (pc := 872) hG (fun _ hg => runV X dL_law_872 (c_X9_right Hb9 hg) mM_L_106 mI_X9_right mE_X9_right mN_X9 mK_X9_right (at_X9_o Hb9) rfl rfl rfl rfl hdd_X9_right ⟨(Nat.le_of_ble_eq_true rfl), (Nat.le_of_ble_eq_true rfl)⟩ rfl rfl (Nat.le_of_ble_eq_true rfl) ⟨(Nat.le_of_ble_eq_true rfl), (Nat.le_of_ble_eq_true rfl)⟩) (fun Z2 g2 hG => ?_)
  refine r_icmp_eq (pc := 875) X dL_law_875 (tgt := 1394) (by decide) hG (fun hG => ?_) (fun hG => by cases hG)
  injection hG with hG
  rw [hG]
  exact kk
set_option maxRecDepth 100000 in
set_option maxHeartbeats 4000000 in
theorem lc_humps (X : Cx E p s m args meth c cL_law RL 4 ret) (Hb8 : At_X8 shl) (Hb9 : At_X9 shl) (C : SC E s b Ln xs iv i) (hG : (cW (g_X8_humps (xs (i + 1)).toInt (xs (i + 2)).toInt h) fun z1 h1 => cP (g_X9_humps (xs (i + 1)).toInt (xs (i + 2)).toInt h1) fun z2 => if z1 = z2 then some h1 else none) = some res) (kk : Ev E ad shl p l e room_1 s m args below meth c 600000 7302250 Q 4 res 1394 (LL b ad iv) []) : Ev E ad shl p l e room_1 s m args below meth c 600000 7302250 Q 4 h 880 (LL b ad iv) [] := by
  refine r_aload_n (pc := 880) X dL_law_880 rfl rfl ?_
  refine r_arg (pc := 881) (k := 1) X C (by omega) rfl rfl dL_law_881 dL_law_882 dL_law_883 dL_law_884 dL_law_885 ?_
  refine r_arg (pc := 886) (k := 2) X C (by omega) rfl rfl dL_law_886 dL_law_887 dL_law_888 dL_law_889 dL_law_890 ?_
  refine r_cW (pc := 891) hG (fun _ hg => runV X dL_law_891 (c_X8_humps Hb8 hg) mM_L_107 mI_X8_humps mE_X8_humps mN_X8 mK_X8_humps (at_X8_o Hb8) rfl rfl rfl rfl hdd_X8_humps ⟨(Nat.le_of_ble_eq_true rfl), (Nat.le_of_ble_eq_true rfl)⟩ rfl rfl (Nat.le_of_ble_eq_true rfl) ⟨(Nat.le_of_ble_eq_true rfl), (Nat.le_of_ble_eq_true rfl)⟩) (fun Z1 g1 hG => ?_)
  refine r_aload_n (pc := 894) X dL_law_894 rfl rfl ?_
  refine r_arg (pc := 895) (k := 1) X C (by omega) rfl rfl dL_law_895 dL_law_896 dL_law_897 dL_law_898 dL_law_899 ?_
  refine r_arg (pc := 900) (k := 2) X C (by omega) rfl rfl dL_law_900 dL_law_901 dL_law_902 dL_law_903 dL_law_904 ?_
  refine r_cP (pc := 905) hG (fun _ hg => runV X dL_law_905 (c_X9_humps Hb9 hg) mM_L_110 mI_X9_humps mE_X9_humps mN_X9 mK_X9_humps (at_X9_o Hb9) rfl rfl rfl rfl hdd_X9_humps ⟨(Nat.le_of_ble_eq_true rfl), (Nat.le_of_ble_eq_true rfl)⟩ rfl rfl (Nat.le_of_ble_eq_true rfl) ⟨(Nat.le_of_ble_eq_true rfl), (Nat.le_of_ble_eq_true rfl)⟩) (fun Z2 hG => ?_)
  refine r_icmp_eq (pc := 908) X dL_law_908 (tgt := 1394) (by decide) hG (fun hG => ?_) (fun hG => by cases hG)
  injection hG with hG
  rw [hG]
  exact kk
set_option maxRecDepth 100000 in
set_option maxHeartbeats 4000000 in
theorem lc_next (X : Cx E p s m args meth c cL_law RL 4 ret) (Hb8 : At_X8 shl) (Hb9 : At_X9 shl) (C : SC E s b Ln xs iv i) (hG : (cW (g_X8_next h) fun z1 h1 => cW (g_X9_next h1) fun z2 h2 => if z1 = z2 then some h2 else none) = some res) (kk : Ev E ad shl p l e room_1 s m args below meth c 600000 7302250 Q 4 res 1394 (LL b ad iv) []) : Ev E ad shl p l e room_1 s m args below meth c 600000 7302250 Q 4 h 913 (LL b ad iv) [] := by
  refine r_aload_n (pc := 913) X dL_law_913 rfl rfl ?_
  refine r_cW (pc := 914) hG (fun _ hg => runV X dL_law_914 (c_X8_next Hb8 hg) mM_L_111 mI_X8_next mE_X8_next mN_X8 mK_X8_next (at_X8_o Hb8) rfl rfl rfl rfl hdd_X8_next ⟨(Nat.le_of_ble_eq_true rfl), (Nat.le_of_ble_eq_true rfl)⟩ rfl rfl (Nat.le_of_ble_eq_true rfl) ⟨(Nat.le_of_ble_eq_true rfl), (Nat.le_of_ble_eq_true rfl)⟩) (fun Z1 g1 hG => ?_)
  refine r_aload_n (pc := 917) X dL_law_917 rfl rfl ?_
  refine r_cW (pc := 918) hG (fun _ hg => runV X dL_law_918 (c_X9_next Hb9 hg) mM_L_114 mI_X9_next mE_X9_next mN_X9 mK_X9_next (at_X9_o Hb9) rfl rfl rfl rfl hdd_X9_next ⟨(Nat.le_of_ble_eq_true rfl), (Nat.le_of_ble_eq_true rfl)⟩ rfl rfl (Nat.le_of_ble_eq_true rfl) ⟨(Nat.le_of_ble_eq_true rfl), (Nat.le_of_ble_eq_true rfl)⟩) (fun Z2 g2 hG => ?_)
  refine r_icmp_eq (pc := 921) X dL_law_921 (tgt := 1394) (by decide) hG (fun hG => ?_) (fun hG => by cases hG)
  injection hG with hG
  rw [hG]
  exact kk
set_option maxRecDepth 100000 in
set_option maxHeartbeats 4000000 in
theorem lc_last (X : Cx E p s m args meth c cL_law RL 4 ret) (Hb8 : At_X8 shl) (Hb9 : At_X9 shl) (C : SC E s b Ln xs iv i) (hG : (cW (g_X8_last (xs (i + 1)).toInt (xs (i + 2)).toInt (xs (i + 3)).toInt (xs (i + 4)).toInt h) fun z1 h1 => cW (g_X9_last (xs (i + 1)).toInt (xs (i + 2)).toInt (xs (i + 3)).toInt (xs (i + 4)).toInt h1) fun z2 h2 => if z1 = z2 then some h2 else none) = some res) (kk : Ev E ad shl p l e room_1 s m args below meth c 600000 7302250 Q 4 res 1394 (LL b ad iv) []) : Ev E ad shl p l e room_1 s m args below meth c 600000 7302250 Q 4 h 926 (LL b ad iv) [] := by
  refine r_aload_n (pc := 926) X dL_law_926 rfl rfl ?_
  refine r_arg (pc := 927) (k := 1) X C (by omega) rfl rfl dL_law_927 dL_law_928 dL_law_929 dL_law_930 dL_law_931 ?_
  refine r_arg (pc := 932) (k := 2) X C (by omega) rfl rfl dL_law_932 dL_law_933 dL_law_934 dL_law_935 dL_law_936 ?_
  refine r_arg (pc := 937) (k := 3) X C (by omega) rfl rfl dL_law_937 dL_law_938 dL_law_939 dL_law_940 dL_law_941 ?_
  refine r_arg (pc := 942) (k := 4) X C (by omega) rfl rfl dL_law_942 dL_law_943 dL_law_944 dL_law_945 dL_law_946 ?_
  refine r_cW (pc := 947) hG (fun _ hg => runV X dL_law_947 (c_X8_last Hb8 hg) mM_L_115 mI_X8_last mE_X8_last mN_X8 mK_X8_last (at_X8_o Hb8) rfl rfl rfl rfl hdd_X8_last ⟨(Nat.le_of_ble_eq_true rfl), (Nat.le_of_ble_eq_true rfl)⟩ rfl rfl (Nat.le_of_ble_eq_true rfl) ⟨(Nat.le_of_ble_eq_true rfl), (Nat.le_of_ble_eq_true rfl)⟩) (fun Z1 g1 hG => ?_)
  refine r_aload_n (pc := 950) X dL_law_950 rfl rfl ?_
  refine r_arg (pc := 951) (k := 1) X C (by omega) rfl rfl dL_law_951 dL_law_952 dL_law_953 dL_law_954 dL_law_955 ?_
  refine r_arg (pc := 956) (k := 2) X C (by omega) rfl rfl dL_law_956 dL_law_957 dL_law_958 dL_law_959 dL_law_960 ?_
  refine r_arg (pc := 961) (k := 3) X C (by omega) rfl rfl dL_law_961 dL_law_962 dL_law_963 dL_law_964 dL_law_965 ?_
  refine r_arg (pc := 966) (k := 4) X C (by omega) rfl rfl dL_law_966 dL_law_967 dL_law_968 dL_law_969 dL_law_970 ?_
  refine r_cW (pc := 971) hG (fun _ hg => runV X dL_law_971 (c_X9_last Hb9 hg) mM_L_118 mI_X9_last mE_X9_last mN_X9 mK_X9_last (at_X9_o Hb9) rfl rfl rfl rfl hdd_X9_last ⟨(Nat.le_of_ble_eq_true rfl), (Nat.le_of_ble_eq_true rfl)⟩ rfl rfl (Nat.le_of_ble_eq_true rfl) ⟨(Nat.le_of_ble_eq_true rfl), (Nat.le_of_ble_eq_true rfl)⟩) (fun Z2 g2 hG => ?_)
  refine r_icmp_eq (pc := 974) X dL_law_974 (tgt := 1394) (by decide) hG (fun hG => ?_) (fun hG => by cases hG)
  injection hG with hG
  rw [hG]
  exact kk
set_option maxRecDepth 100000 in
set_option maxHeartbeats 4000000 in
theorem lc_pail (X : Cx E p s m args meth c cL_law RL 4 ret) (Hb8 : At_X8 shl) (Hb9 : At_X9 shl) (C : SC E s b Ln xs iv i) (hG : (cW (g_X8_pail (xs (i + 1)).toInt (xs (i + 2)).toInt (xs (i + 3)).toInt h) fun z1 h1 => cW (g_X9_pail (xs (i + 1)).toInt (xs (i + 2)).toInt (xs (i + 3)).toInt h1) fun z2 h2 => if z1 = z2 then some h2 else none) = some res) (kk : Ev E ad shl p l e room_1 s m args below meth c 600000 7302250 Q 4 res 1394 (LL b ad iv) []) : Ev E ad shl p l e room_1 s m args below meth c 600000 7302250 Q 4 h 979 (LL b ad iv) [] := by
  refine r_aload_n (pc := 979) X dL_law_979 rfl rfl ?_
  refine r_arg (pc := 980) (k := 1) X C (by omega) rfl rfl dL_law_980 dL_law_981 dL_law_982 dL_law_983 dL_law_984 ?_
  refine r_arg (pc := 985) (k := 2) X C (by omega) rfl rfl dL_law_985 dL_law_986 dL_law_987 dL_law_988 dL_law_989 ?_
  refine r_arg (pc := 990) (k := 3) X C (by omega) rfl rfl dL_law_990 dL_law_991 dL_law_992 dL_law_993 dL_law_994 ?_
  refine r_cW (pc := 995) hG (fun _ hg => runV X dL_law_995 (c_X8_pail Hb8 hg) mM_L_119 mI_X8_pail mE_X8_pail mN_X8 mK_X8_pail (at_X8_o Hb8) rfl rfl rfl rfl hdd_X8_pail ⟨(Nat.le_of_ble_eq_true rfl), (Nat.le_of_ble_eq_true rfl)⟩ rfl rfl (Nat.le_of_ble_eq_true rfl) ⟨(Nat.le_of_ble_eq_true rfl), (Nat.le_of_ble_eq_true rfl)⟩) (fun Z1 g1 hG => ?_)
  refine r_aload_n (pc := 998) X dL_law_998 rfl rfl ?_
  refine r_arg (pc := 999) (k := 1) X C (by omega) rfl rfl dL_law_999 dL_law_1000 dL_law_1001 dL_law_1002 dL_law_1003 ?_
  refine r_arg (pc := 1004) (k := 2) X C (by omega) rfl rfl dL_law_1004 dL_law_1005 dL_law_1006 dL_law_1007 dL_law_1008 ?_
  refine r_arg (pc := 1009) (k := 3) X C (by omega) rfl rfl dL_law_1009 dL_law_1010 dL_law_1011 dL_law_1012 dL_law_1013 ?_
  refine r_cW (pc := 1014) hG (fun _ hg => runV X dL_law_1014 (c_X9_pail Hb9 hg) mM_L_122 mI_X9_pail mE_X9_pail mN_X9 mK_X9_pail (at_X9_o Hb9) rfl rfl rfl rfl hdd_X9_pail ⟨(Nat.le_of_ble_eq_true rfl), (Nat.le_of_ble_eq_true rfl)⟩ rfl rfl (Nat.le_of_ble_eq_true rfl) ⟨(Nat.le_of_ble_eq_true rfl), (Nat.le_of_ble_eq_true rfl)⟩) (fun Z2 g2 hG => ?_)
  refine r_icmp_eq (pc := 1017) X dL_law_1017 (tgt := 1394) (by decide) hG (fun hG => ?_) (fun hG => by cases hG)
  injection hG with hG
  rw [hG]
  exact kk
set_option maxRecDepth 100000 in
set_option maxHeartbeats 4000000 in
theorem lc_row (X : Cx E p s m args meth c cL_law RL 4 ret) (Hb8 : At_X8 shl) (Hb9 : At_X9 shl) (C : SC E s b Ln xs iv i) (hG : (cW (g_X8_row (xs (i + 1)).toInt (xs (i + 2)).toInt (xs (i + 3)).toInt (xs (i + 4)).toInt h) fun z1 h1 => cW (g_X9_row (xs (i + 1)).toInt (xs (i + 2)).toInt (xs (i + 3)).toInt (xs (i + 4)).toInt h1) fun z2 h2 => if z1 = z2 then some h2 else none) = some res) (kk : Ev E ad shl p l e room_1 s m args below meth c 600000 7302250 Q 4 res 1394 (LL b ad iv) []) : Ev E ad shl p l e room_1 s m args below meth c 600000 7302250 Q 4 h 1022 (LL b ad iv) [] := by
  refine r_aload_n (pc := 1022) X dL_law_1022 rfl rfl ?_
  refine r_arg (pc := 1023) (k := 1) X C (by omega) rfl rfl dL_law_1023 dL_law_1024 dL_law_1025 dL_law_1026 dL_law_1027 ?_
  refine r_arg (pc := 1028) (k := 2) X C (by omega) rfl rfl dL_law_1028 dL_law_1029 dL_law_1030 dL_law_1031 dL_law_1032 ?_
  refine r_arg (pc := 1033) (k := 3) X C (by omega) rfl rfl dL_law_1033 dL_law_1034 dL_law_1035 dL_law_1036 dL_law_1037 ?_
  refine r_arg (pc := 1038) (k := 4) X C (by omega) rfl rfl dL_law_1038 dL_law_1039 dL_law_1040 dL_law_1041 dL_law_1042 ?_
  refine r_cW (pc := 1043) hG (fun _ hg => runV X dL_law_1043 (c_X8_row Hb8 hg) mM_L_123 mI_X8_row mE_X8_row mN_X8 mK_X8_row (at_X8_o Hb8) rfl rfl rfl rfl hdd_X8_row ⟨(Nat.le_of_ble_eq_true rfl), (Nat.le_of_ble_eq_true rfl)⟩ rfl rfl (Nat.le_of_ble_eq_true rfl) ⟨(Nat.le_of_ble_eq_true rfl), (Nat.le_of_ble_eq_true rfl)⟩) (fun Z1 g1 hG => ?_)
  refine r_aload_n (pc := 1046) X dL_law_1046 rfl rfl ?_
  refine r_arg (pc := 1047) (k := 1) X C (by omega) rfl rfl dL_law_1047 dL_law_1048 dL_law_1049 dL_law_1050 dL_law_1051 ?_
  refine r_arg (pc := 1052) (k := 2) X C (by omega) rfl rfl dL_law_1052 dL_law_1053 dL_law_1054 dL_law_1055 dL_law_1056 ?_
  refine r_arg (pc := 1057) (k := 3) X C (by omega) rfl rfl dL_law_1057 dL_law_1058 dL_law_1059 dL_law_1060 dL_law_1061 ?_
  refine r_arg (pc := 1062) (k := 4) X C (by omega) rfl rfl dL_law_1062 dL_law_1063 dL_law_1064 dL_law_1065 dL_law_1066 ?_
  refine r_cW (pc := 1067) hG (fun _ hg => runV X dL_law_1067 (c_X9_row Hb9 hg) mM_L_126 mI_X9_row mE_X9_row mN_X9 mK_X9_row (at_X9_o Hb9) rfl rfl rfl rfl hdd_X9_row ⟨(Nat.le_of_ble_eq_true rfl), (Nat.le_of_ble_eq_true rfl)⟩ rfl rfl (Nat.le_of_ble_eq_true rfl) ⟨(Nat.le_of_ble_eq_true rfl), (Nat.le_of_ble_eq_true rfl)⟩) (fun Z2 g2 hG => ?_)
  refine r_icmp_eq (pc := 1070) X dL_law_1070 (tgt := 1394) (by decide) hG (fun hG => ?_) (fun hG => by cases hG)
  injection hG with hG
  rw [hG]
  exact kk
set_option maxRecDepth 100000 in
set_option maxHeartbeats 4000000 in
theorem lc_again (X : Cx E p s m args meth c cL_law RL 4 ret) (Hb8 : At_X8 shl) (Hb9 : At_X9 shl) (C : SC E s b Ln xs iv i) (hG : (cW (g_X8_again (xs (i + 1)).toInt (xs (i + 2)).toInt (xs (i + 3)).toInt h) fun z1 h1 => cW (g_X9_again (xs (i + 1)).toInt (xs (i + 2)).toInt (xs (i + 3)).toInt h1) fun z2 h2 => if z1 = z2 then some h2 else none) = some res) (kk : Ev E ad shl p l e room_1 s m args below meth c 600000 7302250 Q 4 res 1394 (LL b ad iv) []) : Ev E ad shl p l e room_1 s m args below meth c 600000 7302250 Q 4 h 1075 (LL b ad iv) [] := by
  refine r_aload_n (pc := 1075) X dL_law_1075 rfl rfl ?_
  refine r_arg (pc := 1076) (k := 1) X C (by omega) rfl rfl dL_law_1076 dL_law_1077 dL_law_1078 dL_law_1079 dL_law_1080 ?_
  refine r_arg (pc := 1081) (k := 2) X C (by omega) rfl rfl dL_law_1081 dL_law_1082 dL_law_1083 dL_law_1084 dL_law_1085 ?_
  refine r_arg (pc := 1086) (k := 3) X C (by omega) rfl rfl dL_law_1086 dL_law_1087 dL_law_1088 dL_law_1089 dL_law_1090 ?_
  refine r_cW (pc := 1091) hG (fun _ hg => runV X dL_law_1091 (c_X8_again Hb8 hg) mM_L_127 mI_X8_again mE_X8_again mN_X8 mK_X8_again (at_X8_o Hb8) rfl rfl rfl rfl hdd_X8_again ⟨(Nat.le_of_ble_eq_true rfl), (Nat.le_of_ble_eq_true rfl)⟩ rfl rfl (Nat.le_of_ble_eq_true rfl) ⟨(Nat.le_of_ble_eq_true rfl), (Nat.le_of_ble_eq_true rfl)⟩) (fun Z1 g1 hG => ?_)
  refine r_aload_n (pc := 1094) X dL_law_1094 rfl rfl ?_
  refine r_arg (pc := 1095) (k := 1) X C (by omega) rfl rfl dL_law_1095 dL_law_1096 dL_law_1097 dL_law_1098 dL_law_1099 ?_
  refine r_arg (pc := 1100) (k := 2) X C (by omega) rfl rfl dL_law_1100 dL_law_1101 dL_law_1102 dL_law_1103 dL_law_1104 ?_
  refine r_arg (pc := 1105) (k := 3) X C (by omega) rfl rfl dL_law_1105 dL_law_1106 dL_law_1107 dL_law_1108 dL_law_1109 ?_
  refine r_cW (pc := 1110) hG (fun _ hg => runV X dL_law_1110 (c_X9_again Hb9 hg) mM_L_130 mI_X9_again mE_X9_again mN_X9 mK_X9_again (at_X9_o Hb9) rfl rfl rfl rfl hdd_X9_again ⟨(Nat.le_of_ble_eq_true rfl), (Nat.le_of_ble_eq_true rfl)⟩ rfl rfl (Nat.le_of_ble_eq_true rfl) ⟨(Nat.le_of_ble_eq_true rfl), (Nat.le_of_ble_eq_true rfl)⟩) (fun Z2 g2 hG => ?_)
  refine r_icmp_eq (pc := 1113) X dL_law_1113 (tgt := 1394) (by decide) hG (fun hG => ?_) (fun hG => by cases hG)
  injection hG with hG
  rw [hG]
  exact kk
set_option maxRecDepth 100000 in
set_option maxHeartbeats 4000000 in
theorem lc_stand (X : Cx E p s m args meth c cL_law RL 4 ret) (Hb8 : At_X8 shl) (Hb9 : At_X9 shl) (C : SC E s b Ln xs iv i) (hG : (cW (g_X8_stand (xs (i + 1)).toInt (xs (i + 2)).toInt (xs (i + 3)).toInt h) fun z1 h1 => cW (g_X9_stand (xs (i + 1)).toInt (xs (i + 2)).toInt (xs (i + 3)).toInt h1) fun z2 h2 => if z1 = z2 then some h2 else none) = some res) (kk : Ev E ad shl p l e room_1 s m args below meth c 600000 7302250 Q 4 res 1394 (LL b ad iv) []) : Ev E ad shl p l e room_1 s m args below meth c 600000 7302250 Q 4 h 1118 (LL b ad iv) [] := by
  refine r_aload_n (pc := 1118) X dL_law_1118 rfl rfl ?_
  refine r_arg (pc := 1119) (k := 1) X C (by omega) rfl rfl dL_law_1119 dL_law_1120 dL_law_1121 dL_law_1122 dL_law_1123 ?_
  refine r_arg (pc := 1124) (k := 2) X C (by omega) rfl rfl dL_law_1124 dL_law_1125 dL_law_1126 dL_law_1127 dL_law_1128 ?_
  refine r_arg (pc := 1129) (k := 3) X C (by omega) rfl rfl dL_law_1129 dL_law_1130 dL_law_1131 dL_law_1132 dL_law_1133 ?_
  refine r_cW (pc := 1134) hG (fun _ hg => runV X dL_law_1134 (c_X8_stand Hb8 hg) mM_L_131 mI_X8_stand mE_X8_stand mN_X8 mK_X8_stand (at_X8_o Hb8) rfl rfl rfl rfl hdd_X8_stand ⟨(Nat.le_of_ble_eq_true rfl), (Nat.le_of_ble_eq_true rfl)⟩ rfl rfl (Nat.le_of_ble_eq_true rfl) ⟨(Nat.le_of_ble_eq_true rfl), (Nat.le_of_ble_eq_true rfl)⟩) (fun Z1 g1 hG => ?_)
  refine r_aload_n (pc := 1137) X dL_law_1137 rfl rfl ?_
  refine r_arg (pc := 1138) (k := 1) X C (by omega) rfl rfl dL_law_1138 dL_law_1139 dL_law_1140 dL_law_1141 dL_law_1142 ?_
  refine r_arg (pc := 1143) (k := 2) X C (by omega) rfl rfl dL_law_1143 dL_law_1144 dL_law_1145 dL_law_1146 dL_law_1147 ?_
  refine r_arg (pc := 1148) (k := 3) X C (by omega) rfl rfl dL_law_1148 dL_law_1149 dL_law_1150 dL_law_1151 dL_law_1152 ?_
  refine r_cW (pc := 1153) hG (fun _ hg => runV X dL_law_1153 (c_X9_stand Hb9 hg) mM_L_134 mI_X9_stand mE_X9_stand mN_X9 mK_X9_stand (at_X9_o Hb9) rfl rfl rfl rfl hdd_X9_stand ⟨(Nat.le_of_ble_eq_true rfl), (Nat.le_of_ble_eq_true rfl)⟩ rfl rfl (Nat.le_of_ble_eq_true rfl) ⟨(Nat.le_of_ble_eq_true rfl), (Nat.le_of_ble_eq_true rfl)⟩) (fun Z2 g2 hG => ?_)
  refine r_icmp_eq (pc := 1156) X dL_law_1156 (tgt := 1394) (by decide) hG (fun hG => ?_) (fun hG => by cases hG)
  injection hG with hG
  rw [hG]
  exact kk
set_option maxRecDepth 100000 in
set_option maxHeartbeats 4000000 in
theorem lc_outlasts (X : Cx E p s m args meth c cL_law RL 4 ret) (Hb8 : At_X8 shl) (Hb9 : At_X9 shl) (C : SC E s b Ln xs iv i) (hG : (cW (g_X8_outlasts (xs (i + 1)).toInt (xs (i + 2)).toInt (xs (i + 3)).toInt (xs (i + 4)).toInt (if (xs (i + 5)).toInt = 0 then 0 else 1) h) fun z1 h1 => cW (g_X9_outlasts (xs (i + 1)).toInt (xs (i + 2)).toInt (xs (i + 3)).toInt (xs (i + 4)).toInt (if (xs (i + 5)).toInt = 0 then 0 else 1) h1) fun z2 h2 => if z1 = z2 then some h2 else none) = some res) (kk : Ev E ad shl p l e room_1 s m args below meth c 600000 7302250 Q 4 res 1394 (LL b ad iv) []) : Ev E ad shl p l e room_1 s m args below meth c 600000 7302250 Q 4 h 1161 (LL b ad iv) [] := by
  refine r_aload_n (pc := 1161) X dL_law_1161 rfl rfl ?_
  refine r_arg (pc := 1162) (k := 1) X C (by omega) rfl rfl dL_law_1162 dL_law_1163 dL_law_1164 dL_law_1165 dL_law_1166 ?_
  refine r_arg (pc := 1167) (k := 2) X C (by omega) rfl rfl dL_law_1167 dL_law_1168 dL_law_1169 dL_law_1170 dL_law_1171 ?_
  refine r_arg (pc := 1172) (k := 3) X C (by omega) rfl rfl dL_law_1172 dL_law_1173 dL_law_1174 dL_law_1175 dL_law_1176 ?_
  refine r_arg (pc := 1177) (k := 4) X C (by omega) rfl rfl dL_law_1177 dL_law_1178 dL_law_1179 dL_law_1180 dL_law_1181 ?_
  refine r_arg (pc := 1182) (k := 5) X C (by omega) rfl rfl dL_law_1182 dL_law_1183 dL_law_1184 dL_law_1185 dL_law_1186 ?_
  refine r_bool (pc := 1187) X dL_law_1187 dL_law_1190 dL_law_1191 dL_law_1194 (fun Zb1 hZ1 => ?_)
  rw [← hZ1] at hG
  refine r_cW (pc := 1195) hG (fun _ hg => runV X dL_law_1195 (c_X8_outlasts Hb8 hg) mM_L_135 mI_X8_outlasts mE_X8_outlasts mN_X8 mK_X8_outlasts (at_X8_o Hb8) rfl rfl rfl rfl hdd_X8_outlasts ⟨(Nat.le_of_ble_eq_true rfl), (Nat.le_of_ble_eq_true rfl)⟩ rfl rfl (Nat.le_of_ble_eq_true rfl) ⟨(Nat.le_of_ble_eq_true rfl), (Nat.le_of_ble_eq_true rfl)⟩) (fun Z1 g1 hG => ?_)
  refine r_aload_n (pc := 1198) X dL_law_1198 rfl rfl ?_
  refine r_arg (pc := 1199) (k := 1) X C (by omega) rfl rfl dL_law_1199 dL_law_1200 dL_law_1201 dL_law_1202 dL_law_1203 ?_
  refine r_arg (pc := 1204) (k := 2) X C (by omega) rfl rfl dL_law_1204 dL_law_1205 dL_law_1206 dL_law_1207 dL_law_1208 ?_
  refine r_arg (pc := 1209) (k := 3) X C (by omega) rfl rfl dL_law_1209 dL_law_1210 dL_law_1211 dL_law_1212 dL_law_1213 ?_
  refine r_arg (pc := 1214) (k := 4) X C (by omega) rfl rfl dL_law_1214 dL_law_1215 dL_law_1216 dL_law_1217 dL_law_1218 ?_
  refine r_arg (pc := 1219) (k := 5) X C (by omega) rfl rfl dL_law_1219 dL_law_1220 dL_law_1221 dL_law_1222 dL_law_1223 ?_
  refine r_bool (pc := 1224) X dL_law_1224 dL_law_1227 dL_law_1228 dL_law_1231 (fun Zb2 hZ2 => ?_)
  obtain rfl : Zb2 = Zb1 := Int32.toInt_inj.mp (hZ2.trans hZ1.symm)
  refine r_cW (pc := 1232) hG (fun _ hg => runV X dL_law_1232 (c_X9_outlasts Hb9 hg) mM_L_139 mI_X9_outlasts mE_X9_outlasts mN_X9 mK_X9_outlasts (at_X9_o Hb9) rfl rfl rfl rfl hdd_X9_outlasts ⟨(Nat.le_of_ble_eq_true rfl), (Nat.le_of_ble_eq_true rfl)⟩ rfl rfl (Nat.le_of_ble_eq_true rfl) ⟨(Nat.le_of_ble_eq_true rfl), (Nat.le_of_ble_eq_true rfl)⟩) (fun Z2 g2 hG => ?_)
  refine r_icmp_eq (pc := 1235) X dL_law_1235 (tgt := 1394) (by decide) hG (fun hG => ?_) (fun hG => by cases hG)
  injection hG with hG
  rw [hG]
  exact kk
set_option maxRecDepth 100000 in
set_option maxHeartbeats 4000000 in
theorem lc_contest (X : Cx E p s m args meth c cL_law RL 4 ret) (Hb8 : At_X8 shl) (Hb9 : At_X9 shl) (C : SC E s b Ln xs iv i) (hG : (cW (g_X8_contest (xs (i + 1)).toInt (xs (i + 2)).toInt (xs (i + 3)).toInt h) fun z1 h1 => cW (g_X9_contest (xs (i + 1)).toInt (xs (i + 2)).toInt (xs (i + 3)).toInt h1) fun z2 h2 => if z1 = z2 then some h2 else none) = some res) (kk : Ev E ad shl p l e room_1 s m args below meth c 600000 7302250 Q 4 res 1394 (LL b ad iv) []) : Ev E ad shl p l e room_1 s m args below meth c 600000 7302250 Q 4 h 1240 (LL b ad iv) [] := by
  refine r_aload_n (pc := 1240) X dL_law_1240 rfl rfl ?_
  refine r_arg (pc := 1241) (k := 1) X C (by omega) rfl rfl dL_law_1241 dL_law_1242 dL_law_1243 dL_law_1244 dL_law_1245 ?_
  refine r_arg (pc := 1246) (k := 2) X C (by omega) rfl rfl dL_law_1246 dL_law_1247 dL_law_1248 dL_law_1249 dL_law_1250 ?_
  refine r_arg (pc := 1251) (k := 3) X C (by omega) rfl rfl dL_law_1251 dL_law_1252 dL_law_1253 dL_law_1254 dL_law_1255 ?_
  refine r_cW (pc := 1256) hG (fun _ hg => runV X dL_law_1256 (c_X8_contest Hb8 hg) mM_L_140 mI_X8_contest mE_X8_contest mN_X8 mK_X8_contest (at_X8_o Hb8) rfl rfl rfl rfl hdd_X8_contest ⟨(Nat.le_of_ble_eq_true rfl), (Nat.le_of_ble_eq_true rfl)⟩ rfl rfl (Nat.le_of_ble_eq_true rfl) ⟨(Nat.le_of_ble_eq_true rfl), (Nat.le_of_ble_eq_true rfl)⟩) (fun Z1 g1 hG => ?_)
  refine r_aload_n (pc := 1259) X dL_law_1259 rfl rfl ?_
  refine r_arg (pc := 1260) (k := 1) X C (by omega) rfl rfl dL_law_1260 dL_law_1261 dL_law_1262 dL_law_1263 dL_law_1264 ?_
  refine r_arg (pc := 1265) (k := 2) X C (by omega) rfl rfl dL_law_1265 dL_law_1266 dL_law_1267 dL_law_1268 dL_law_1269 ?_
  refine r_arg (pc := 1270) (k := 3) X C (by omega) rfl rfl dL_law_1270 dL_law_1271 dL_law_1272 dL_law_1273 dL_law_1274 ?_
  refine r_cW (pc := 1275) hG (fun _ hg => runV X dL_law_1275 (c_X9_contest Hb9 hg) mM_L_143 mI_X9_contest mE_X9_contest mN_X9 mK_X9_contest (at_X9_o Hb9) rfl rfl rfl rfl hdd_X9_contest ⟨(Nat.le_of_ble_eq_true rfl), (Nat.le_of_ble_eq_true rfl)⟩ rfl rfl (Nat.le_of_ble_eq_true rfl) ⟨(Nat.le_of_ble_eq_true rfl), (Nat.le_of_ble_eq_true rfl)⟩) (fun Z2 g2 hG => ?_)
  refine r_icmp_eq (pc := 1278) X dL_law_1278 (tgt := 1394) (by decide) hG (fun hG => ?_) (fun hG => by cases hG)
  injection hG with hG
  rw [hG]
  exact kk
set_option maxRecDepth 100000 in
set_option maxHeartbeats 4000000 in
theorem lc_which (X : Cx E p s m args meth c cL_law RL 4 ret) (Hb8 : At_X8 shl) (Hb9 : At_X9 shl) (C : SC E s b Ln xs iv i) (hG : (cW (g_X8_which h) fun z1 h1 => cW (g_X9_which h1) fun z2 h2 => if z1 = z2 then some h2 else none) = some res) (kk : Ev E ad shl p l e room_1 s m args below meth c 600000 7302250 Q 4 res 1394 (LL b ad iv) []) : Ev E ad shl p l e room_1 s m args below meth c 600000 7302250 Q 4 h 1283 (LL b ad iv) [] := by
  refine r_aload_n (pc := 1283) X dL_law_1283 rfl rfl ?_
  refine r_cW (pc := 1284) hG (fun _ hg => runV X dL_law_1284 (c_X8_which Hb8 hg) mM_L_144 mI_X8_which mE_X8_which mN_X8 mK_X8_which (at_X8_o Hb8) rfl rfl rfl rfl hdd_X8_which ⟨(Nat.le_of_ble_eq_true rfl), (Nat.le_of_ble_eq_true rfl)⟩ rfl rfl (Nat.le_of_ble_eq_true rfl) ⟨(Nat.le_of_ble_eq_true rfl), (Nat.le_of_ble_eq_true rfl)⟩) (fun Z1 g1 hG => ?_)
  refine r_aload_n (pc := 1287) X dL_law_1287 rfl rfl ?_
  refine r_cW (pc := 1288) hG (fun _ hg => runV X dL_law_1288 (c_X9_which Hb9 hg) mM_L_147 mI_X9_which mE_X9_which mN_X9 mK_X9_which (at_X9_o Hb9) rfl rfl rfl rfl hdd_X9_which ⟨(Nat.le_of_ble_eq_true rfl), (Nat.le_of_ble_eq_true rfl)⟩ rfl rfl (Nat.le_of_ble_eq_true rfl) ⟨(Nat.le_of_ble_eq_true rfl), (Nat.le_of_ble_eq_true rfl)⟩) (fun Z2 g2 hG => ?_)
  refine r_icmp_eq (pc := 1291) X dL_law_1291 (tgt := 1394) (by decide) hG (fun hG => ?_) (fun hG => by cases hG)
  injection hG with hG
  rw [hG]
  exact kk
set_option maxRecDepth 100000 in
set_option maxHeartbeats 4000000 in
theorem lc_join (X : Cx E p s m args meth c cL_law RL 4 ret) (Hb8 : At_X8 shl) (Hb9 : At_X9 shl) (C : SC E s b Ln xs iv i) (hG : (cP (g_X8_join (xs (i + 1)).toInt (xs (i + 2)).toInt (xs (i + 3)).toInt (xs (i + 4)).toInt (xs (i + 5)).toInt (xs (i + 6)).toInt) fun z1 => cP (g_X9_join (xs (i + 1)).toInt (xs (i + 2)).toInt (xs (i + 3)).toInt (xs (i + 4)).toInt (xs (i + 5)).toInt (xs (i + 6)).toInt) fun z2 => if z1 = z2 then some h else none) = some res) (kk : Ev E ad shl p l e room_1 s m args below meth c 600000 7302250 Q 4 res 1394 (LL b ad iv) []) : Ev E ad shl p l e room_1 s m args below meth c 600000 7302250 Q 4 h 1296 (LL b ad iv) [] := by
  refine r_aload_n (pc := 1296) X dL_law_1296 rfl rfl ?_
  refine r_arg (pc := 1297) (k := 1) X C (by omega) rfl rfl dL_law_1297 dL_law_1298 dL_law_1299 dL_law_1300 dL_law_1301 ?_
  refine r_arg (pc := 1302) (k := 2) X C (by omega) rfl rfl dL_law_1302 dL_law_1303 dL_law_1304 dL_law_1305 dL_law_1306 ?_
  refine r_arg (pc := 1307) (k := 3) X C (by omega) rfl rfl dL_law_1307 dL_law_1308 dL_law_1309 dL_law_1310 dL_law_1311 ?_
  refine r_arg (pc := 1312) (k := 4) X C (by omega) rfl rfl dL_law_1312 dL_law_1313 dL_law_1314 dL_law_1315 dL_law_1316 ?_
  refine r_arg (pc := 1317) (k := 5) X C (by omega) rfl rfl dL_law_1317 dL_law_1318 dL_law_1319 dL_law_1320 dL_law_1321 ?_
  refine r_arg6 (pc := 1322) X C rfl rfl dL_law_1322 dL_law_1323 dL_law_1324 dL_law_1326 dL_law_1327 ?_
  refine r_cP (pc := 1328) hG (fun _ hg => runV X dL_law_1328 (c_X8_join Hb8 hg) mM_L_148 mI_X8_join mE_X8_join mN_X8 mK_X8_join (at_X8_o Hb8) rfl rfl rfl rfl hdd_X8_join ⟨(Nat.le_of_ble_eq_true rfl), (Nat.le_of_ble_eq_true rfl)⟩ rfl rfl (Nat.le_of_ble_eq_true rfl) ⟨(Nat.le_of_ble_eq_true rfl), (Nat.le_of_ble_eq_true rfl)⟩) (fun Z1 hG => ?_)
  refine r_aload_n (pc := 1331) X dL_law_1331 rfl rfl ?_
  refine r_arg (pc := 1332) (k := 1) X C (by omega) rfl rfl dL_law_1332 dL_law_1333 dL_law_1334 dL_law_1335 dL_law_1336 ?_
  refine r_arg (pc := 1337) (k := 2) X C (by omega) rfl rfl dL_law_1337 dL_law_1338 dL_law_1339 dL_law_1340 dL_law_1341 ?_
  refine r_arg (pc := 1342) (k := 3) X C (by omega) rfl rfl dL_law_1342 dL_law_1343 dL_law_1344 dL_law_1345 dL_law_1346 ?_
  refine r_arg (pc := 1347) (k := 4) X C (by omega) rfl rfl dL_law_1347 dL_law_1348 dL_law_1349 dL_law_1350 dL_law_1351 ?_
  refine r_arg (pc := 1352) (k := 5) X C (by omega) rfl rfl dL_law_1352 dL_law_1353 dL_law_1354 dL_law_1355 dL_law_1356 ?_
  refine r_arg6 (pc := 1357) X C rfl rfl dL_law_1357 dL_law_1358 dL_law_1359 dL_law_1361 dL_law_1362 ?_
  refine r_cP (pc := 1363) hG (fun _ hg => runV X dL_law_1363 (c_X9_join Hb9 hg) mM_L_152 mI_X9_join mE_X9_join mN_X9 mK_X9_join (at_X9_o Hb9) rfl rfl rfl rfl hdd_X9_join ⟨(Nat.le_of_ble_eq_true rfl), (Nat.le_of_ble_eq_true rfl)⟩ rfl rfl (Nat.le_of_ble_eq_true rfl) ⟨(Nat.le_of_ble_eq_true rfl), (Nat.le_of_ble_eq_true rfl)⟩) (fun Z2 hG => ?_)
  refine r_icmp_eq (pc := 1366) X dL_law_1366 (tgt := 1394) (by decide) hG (fun hG => ?_) (fun hG => by cases hG)
  injection hG with hG
  rw [hG]
  exact kk
set_option maxRecDepth 100000 in
set_option maxHeartbeats 4000000 in
theorem lc_count (X : Cx E p s m args meth c cL_law RL 4 ret) (Hb8 : At_X8 shl) (Hb9 : At_X9 shl) (C : SC E s b Ln xs iv i) (hG : (cP (g_X8_count (xs (i + 1)).toInt h) fun z1 => cP (g_X9_count (xs (i + 1)).toInt h) fun z2 => if z1 = z2 then some h else none) = some res) (kk : Ev E ad shl p l e room_1 s m args below meth c 600000 7302250 Q 4 res 1394 (LL b ad iv) []) : Ev E ad shl p l e room_1 s m args below meth c 600000 7302250 Q 4 h 1371 (LL b ad iv) [] := by
  refine r_aload_n (pc := 1371) X dL_law_1371 rfl rfl ?_
  refine r_arg (pc := 1372) (k := 1) X C (by omega) rfl rfl dL_law_1372 dL_law_1373 dL_law_1374 dL_law_1375 dL_law_1376 ?_
  refine r_cP (pc := 1377) hG (fun _ hg => runV X dL_law_1377 (c_X8_count Hb8 hg) mM_L_153 mI_X8_count mE_X8_count mN_X8 mK_X8_count (at_X8_o Hb8) rfl rfl rfl rfl hdd_X8_count ⟨(Nat.le_of_ble_eq_true rfl), (Nat.le_of_ble_eq_true rfl)⟩ rfl rfl (Nat.le_of_ble_eq_true rfl) ⟨(Nat.le_of_ble_eq_true rfl), (Nat.le_of_ble_eq_true rfl)⟩) (fun Z1 hG => ?_)
  refine r_aload_n (pc := 1380) X dL_law_1380 rfl rfl ?_
  refine r_arg (pc := 1381) (k := 1) X C (by omega) rfl rfl dL_law_1381 dL_law_1382 dL_law_1383 dL_law_1384 dL_law_1385 ?_
  refine r_cP (pc := 1386) hG (fun _ hg => runV X dL_law_1386 (c_X9_count Hb9 hg) mM_L_156 mI_X9_count mE_X9_count mN_X9 mK_X9_count (at_X9_o Hb9) rfl rfl rfl rfl hdd_X9_count ⟨(Nat.le_of_ble_eq_true rfl), (Nat.le_of_ble_eq_true rfl)⟩ rfl rfl (Nat.le_of_ble_eq_true rfl) ⟨(Nat.le_of_ble_eq_true rfl), (Nat.le_of_ble_eq_true rfl)⟩) (fun Z2 hG => ?_)
  refine r_icmp_eq (pc := 1389) X dL_law_1389 (tgt := 1394) (by decide) hG (fun hG => ?_) (fun hG => by cases hG)
  injection hG with hG
  rw [hG]
  exact kk
end LAWCASES
