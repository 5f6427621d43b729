/-! THE START: the words that the law stands on, by their places -/
theorem nw_s0 : Cond.stringRef RX0 121 "beach" ∈ lw_tbl := mt2 (i := 232) (by decide +kernel)
theorem nw_s1 : Cond.stringRef RX0 123 "sand" ∈ lw_tbl := mt3 (i := 45) (by decide +kernel)
theorem nw_s2 : Cond.stringRef RX0 125 "pack" ∈ lw_tbl := mt3 (i := 46) (by decide +kernel)
theorem nw_s3 : Cond.stringRef RX0 127 "dry" ∈ lw_tbl := mt3 (i := 47) (by decide +kernel)
theorem nw_s4 : Cond.stringRef RX0 129 "damp" ∈ lw_tbl := mt3 (i := 48) (by decide +kernel)
theorem nw_s5 : Cond.stringRef RX0 131 "fall" ∈ lw_tbl := mt3 (i := 49) (by decide +kernel)
theorem nw_s6 : Cond.stringRef RX0 133 "tire" ∈ lw_tbl := mt3 (i := 50) (by decide +kernel)
theorem nw_s7 : Cond.stringRef RX0 135 "hump" ∈ lw_tbl := mt3 (i := 51) (by decide +kernel)
theorem nw_s8 : Cond.stringRef RX0 98 "heap" ∈ lw_tbl := mt3 (i := 75) (by decide +kernel)
theorem nw_s9 : Cond.stringRef RX0 107 "stone" ∈ lw_tbl := mt3 (i := 93) (by decide +kernel)
theorem nw_s10 : Cond.stringRef RX0 112 "flag" ∈ lw_tbl := mt3 (i := 98) (by decide +kernel)
theorem nw_s11 : Cond.stringRef RX2 59 "wave" ∈ lw_tbl := mt3 (i := 122) (by decide +kernel)
theorem nw_s12 : Cond.stringRef RX2 68 "tide" ∈ lw_tbl := mt3 (i := 134) (by decide +kernel)
theorem nw_s13 : Cond.stringRef RX2 74 "reach" ∈ lw_tbl := mt3 (i := 143) (by decide +kernel)
theorem nw_s14 : Cond.stringRef RX2 76 "level" ∈ lw_tbl := mt3 (i := 144) (by decide +kernel)
theorem nw_s15 : Cond.stringRef RX2 78 "cut" ∈ lw_tbl := mt3 (i := 145) (by decide +kernel)
theorem nw_s16 : Cond.stringRef RX1 38 "hand" ∈ lw_tbl := mt3 (i := 160) (by decide +kernel)
theorem nw_s17 : Cond.stringRef RX1 69 "dig" ∈ lw_tbl := mt3 (i := 172) (by decide +kernel)
theorem nw_s18 : Cond.stringRef RX1 71 "pack" ∈ lw_tbl := mt3 (i := 173) (by decide +kernel)
theorem nw_s19 : Cond.stringRef RX1 73 "wet" ∈ lw_tbl := mt3 (i := 174) (by decide +kernel)
theorem nw_s20 : Cond.stringRef RX1 75 "wall" ∈ lw_tbl := mt3 (i := 175) (by decide +kernel)
theorem nw_s21 : Cond.stringRef RX1 77 "rest" ∈ lw_tbl := mt3 (i := 176) (by decide +kernel)
theorem nw_s22 : Cond.stringRef RX9 137 "beach" ∈ lw_tbl := mt6 (i := 101) (by decide +kernel)
theorem nw_s23 : Cond.stringRef RX9 143 "heap" ∈ lw_tbl := mt6 (i := 124) (by decide +kernel)
theorem nw_s24 : Cond.stringRef RX9 147 "stone" ∈ lw_tbl := mt6 (i := 133) (by decide +kernel)
theorem nw_s25 : Cond.stringRef RX9 151 "flag" ∈ lw_tbl := mt6 (i := 138) (by decide +kernel)
theorem nw_s26 : Cond.stringRef RX9 104 "sand" ∈ lw_tbl := mt6 (i := 151) (by decide +kernel)
theorem nw_s27 : Cond.stringRef RX9 110 "pack" ∈ lw_tbl := mt6 (i := 152) (by decide +kernel)
theorem nw_s28 : Cond.stringRef RX9 112 "dry" ∈ lw_tbl := mt6 (i := 153) (by decide +kernel)
theorem nw_s29 : Cond.stringRef RX9 114 "damp" ∈ lw_tbl := mt6 (i := 154) (by decide +kernel)
theorem nw_s30 : Cond.stringRef RX9 116 "fall" ∈ lw_tbl := mt6 (i := 155) (by decide +kernel)
theorem nw_s31 : Cond.stringRef RX9 118 "tire" ∈ lw_tbl := mt6 (i := 156) (by decide +kernel)
theorem nw_s32 : Cond.stringRef RX9 120 "hump" ∈ lw_tbl := mt6 (i := 157) (by decide +kernel)
theorem nw_s33 : Cond.stringRef RX9 194 "wave" ∈ lw_tbl := mt6 (i := 173) (by decide +kernel)
theorem nw_s34 : Cond.stringRef RX9 171 "tide" ∈ lw_tbl := mt6 (i := 182) (by decide +kernel)
theorem nw_s35 : Cond.stringRef RX9 173 "reach" ∈ lw_tbl := mt6 (i := 183) (by decide +kernel)
theorem nw_s36 : Cond.stringRef RX9 175 "level" ∈ lw_tbl := mt6 (i := 184) (by decide +kernel)
theorem nw_s37 : Cond.stringRef RX9 177 "cut" ∈ lw_tbl := mt6 (i := 185) (by decide +kernel)
theorem nw_s38 : Cond.stringRef RX9 221 "hand" ∈ lw_tbl := mt6 (i := 206) (by decide +kernel)
theorem nw_s39 : Cond.stringRef RX9 213 "dig" ∈ lw_tbl := mt6 (i := 211) (by decide +kernel)
theorem nw_s40 : Cond.stringRef RX9 215 "wet" ∈ lw_tbl := mt6 (i := 212) (by decide +kernel)
theorem nw_s41 : Cond.stringRef RX9 217 "wall" ∈ lw_tbl := mt6 (i := 213) (by decide +kernel)
theorem nw_s42 : Cond.stringRef RX9 219 "rest" ∈ lw_tbl := mt6 (i := 214) (by decide +kernel)
theorem nw_s : ∀ q ∈ strL, Cond.stringRef q.1 q.2.1 q.2.2 ∈ lw_tbl := List.forall_mem_cons.mpr ⟨nw_s0, List.forall_mem_cons.mpr ⟨nw_s1, List.forall_mem_cons.mpr ⟨nw_s2, List.forall_mem_cons.mpr ⟨nw_s3, List.forall_mem_cons.mpr ⟨nw_s4, List.forall_mem_cons.mpr ⟨nw_s5, List.forall_mem_cons.mpr ⟨nw_s6, List.forall_mem_cons.mpr ⟨nw_s7, List.forall_mem_cons.mpr ⟨nw_s8, List.forall_mem_cons.mpr ⟨nw_s9, List.forall_mem_cons.mpr ⟨nw_s10, List.forall_mem_cons.mpr ⟨nw_s11, List.forall_mem_cons.mpr ⟨nw_s12, List.forall_mem_cons.mpr ⟨nw_s13, List.forall_mem_cons.mpr ⟨nw_s14, List.forall_mem_cons.mpr ⟨nw_s15, List.forall_mem_cons.mpr ⟨nw_s16, List.forall_mem_cons.mpr ⟨nw_s17, List.forall_mem_cons.mpr ⟨nw_s18, List.forall_mem_cons.mpr ⟨nw_s19, List.forall_mem_cons.mpr ⟨nw_s20, List.forall_mem_cons.mpr ⟨nw_s21, List.forall_mem_cons.mpr ⟨nw_s22, List.forall_mem_cons.mpr ⟨nw_s23, List.forall_mem_cons.mpr ⟨nw_s24, List.forall_mem_cons.mpr ⟨nw_s25, List.forall_mem_cons.mpr ⟨nw_s26, List.forall_mem_cons.mpr ⟨nw_s27, List.forall_mem_cons.mpr ⟨nw_s28, List.forall_mem_cons.mpr ⟨nw_s29, List.forall_mem_cons.mpr ⟨nw_s30, List.forall_mem_cons.mpr ⟨nw_s31, List.forall_mem_cons.mpr ⟨nw_s32, List.forall_mem_cons.mpr ⟨nw_s33, List.forall_mem_cons.mpr ⟨nw_s34, List.forall_mem_cons.mpr ⟨nw_s35, List.forall_mem_cons.mpr ⟨nw_s36, List.forall_mem_cons.mpr ⟨nw_s37, List.forall_mem_cons.mpr ⟨nw_s38, List.forall_mem_cons.mpr ⟨nw_s39, List.forall_mem_cons.mpr ⟨nw_s40, List.forall_mem_cons.mpr ⟨nw_s41, List.forall_mem_cons.mpr ⟨nw_s42, fun _ h => absurd h List.not_mem_nil⟩⟩⟩⟩⟩⟩⟩⟩⟩⟩⟩⟩⟩⟩⟩⟩⟩⟩⟩⟩⟩⟩⟩⟩⟩⟩⟩⟩⟩⟩⟩⟩⟩⟩⟩⟩⟩⟩⟩⟩⟩⟩⟩
theorem nw_n0 : Cond.methodLinkNest RX8 9 yX5_init "TideKeep" ∈ lw_tbl := mt1 (i := 28) (by decide +kernel)
theorem nw_n1 : Cond.methodLinkNest RX0 86 yX8_strengthOf "TideKeep" ∈ lw_tbl := mt1 (i := 84) (by decide +kernel)
theorem nw_n2 : Cond.methodLinkNest RX8 44 yX3_init "TideKeep" ∈ lw_tbl := mt1 (i := 180) (by decide +kernel)
theorem nw_n3 : Cond.methodLinkNest RX8 59 yX7_init "TideKeep" ∈ lw_tbl := mt2 (i := 12) (by decide +kernel)
theorem nw_n4 : Cond.methodLinkNest RX8 66 yX6_init "TideKeep" ∈ lw_tbl := mt2 (i := 58) (by decide +kernel)
theorem nw_n5 : Cond.methodLinkNest RX6 11 yX3_init "TideKeep" ∈ lw_tbl := mt2 (i := 63) (by decide +kernel)
theorem nw_n6 : Cond.methodLinkNest RX8 73 yX4_init "TideKeep" ∈ lw_tbl := mt2 (i := 90) (by decide +kernel)
theorem nw_n7 : Cond.methodLinkNest RX8 78 yX1_init "TideKeep" ∈ lw_tbl := mt2 (i := 100) (by decide +kernel)
theorem nw_n8 : Cond.methodLinkNest RX7 49 yX8_strengthOf "TideKeep" ∈ lw_tbl := mt4 (i := 181) (by decide +kernel)
theorem nw_n : ∀ q ∈ nestL, Cond.methodLinkNest q.1 q.2.1 q.2.2.1 q.2.2.2 ∈ lw_tbl := List.forall_mem_cons.mpr ⟨nw_n0, List.forall_mem_cons.mpr ⟨nw_n1, List.forall_mem_cons.mpr ⟨nw_n2, List.forall_mem_cons.mpr ⟨nw_n3, List.forall_mem_cons.mpr ⟨nw_n4, List.forall_mem_cons.mpr ⟨nw_n5, List.forall_mem_cons.mpr ⟨nw_n6, List.forall_mem_cons.mpr ⟨nw_n7, List.forall_mem_cons.mpr ⟨nw_n8, fun _ h => absurd h List.not_mem_nil⟩⟩⟩⟩⟩⟩⟩⟩⟩
theorem nw_l0 : Cond.laysStatic RX0 "LEAST" "[I" ∈ lw_tbl := mt3 (i := 67) (by decide +kernel)
theorem nw_i0 : Cond.initialized RX0 ∈ lw_tbl := mt1 (i := 3) (by decide +kernel)
theorem nw_l1 : Cond.laysStatic RX0 "MOST" "[I" ∈ lw_tbl := mt3 (i := 69) (by decide +kernel)
theorem nw_i1 : Cond.initialized RX0 ∈ lw_tbl := mt1 (i := 3) (by decide +kernel)
theorem nw_l2 : Cond.laysStatic RX0 "UNTOLD" "[I" ∈ lw_tbl := mt1 (i := 73) (by decide +kernel)
theorem nw_i2 : Cond.initialized RX0 ∈ lw_tbl := mt1 (i := 3) (by decide +kernel)
theorem nw_l3 : Cond.laysStatic RX2 "LEAST" "[I" ∈ lw_tbl := mt3 (i := 131) (by decide +kernel)
theorem nw_i3 : Cond.initialized RX2 ∈ lw_tbl := mt1 (i := 7) (by decide +kernel)
theorem nw_l4 : Cond.laysStatic RX2 "MOST" "[I" ∈ lw_tbl := mt3 (i := 133) (by decide +kernel)
theorem nw_i4 : Cond.initialized RX2 ∈ lw_tbl := mt1 (i := 7) (by decide +kernel)
theorem nw_l5 : Cond.laysStatic RX2 "UNTOLD" "[I" ∈ lw_tbl := mt1 (i := 141) (by decide +kernel)
theorem nw_i5 : Cond.initialized RX2 ∈ lw_tbl := mt1 (i := 7) (by decide +kernel)
theorem nw_l : ∀ q ∈ tabL, Cond.laysStatic q.1 q.2.1 "[I" ∈ lw_tbl ∧ Cond.initialized q.1 ∈ lw_tbl := List.forall_mem_cons.mpr ⟨⟨nw_l0, nw_i0⟩, List.forall_mem_cons.mpr ⟨⟨nw_l1, nw_i1⟩, List.forall_mem_cons.mpr ⟨⟨nw_l2, nw_i2⟩, List.forall_mem_cons.mpr ⟨⟨nw_l3, nw_i3⟩, List.forall_mem_cons.mpr ⟨⟨nw_l4, nw_i4⟩, List.forall_mem_cons.mpr ⟨⟨nw_l5, nw_i5⟩, fun _ h => absurd h List.not_mem_nil⟩⟩⟩⟩⟩⟩
theorem nw_c1 : Cond.laysStatic "java/lang/String" "COMPACT_STRINGS" "Z" ∈ lw_tbl := mt3 (i := 6) (by decide +kernel)
theorem nw_c2 : Cond.initialized "java/lang/String" ∈ lw_tbl := mt1 (i := 14) (by decide +kernel)
theorem nw_p1 : Cond.laysStatic "jdk/internal/util/Preconditions" "SIOOBE_FORMATTER" "Ljava/util/function/BiFunction;" ∈ lw_tbl := mt3 (i := 22) (by decide +kernel)
theorem nw_p2 : Cond.initialized "jdk/internal/util/Preconditions" ∈ lw_tbl := mt1 (i := 16) (by decide +kernel)
theorem nw_aint : Cond.arrayClass .int ∈ lw_tbl := mt1 (i := 61) (by decide +kernel)
theorem nw_abyte : Cond.arrayClass .byte ∈ lw_tbl := mt3 (i := 108) (by decide +kernel)
theorem nw_aboolean : Cond.arrayClass .boolean ∈ lw_tbl := mt2 (i := 55) (by decide +kernel)
theorem nw_o1 : Cond.arrayOver (.object RX1) ∈ lw_tbl := mt1 (i := 177) (by decide +kernel)
theorem nw_o3 : Cond.arrayOver (.object RX3) ∈ lw_tbl := mt2 (i := 9) (by decide +kernel)
def W0 : List Cond := flatC (Jvm.Cond.and given_1 narrow_1)
def sF (q : String × Nat × String) : Term := .field (.string q.1 q.2.1) "java/lang/String" "value" "[B"
def sB (q : String × Nat × String) : List Int := q.2.2.toList.map fun c => (c.toNat : Int)
def strW (q : String × Nat × String) : List Cond := Cond.exactly (.string q.1 q.2.1) "java/lang/String" :: Cond.eq (.field (.string q.1 q.2.1) "java/lang/String" "coder" "B") (.int 0) :: Cond.arrayOf (sF q) .byte :: Cond.eq (.length (sF q)) (.int (Int32.ofNat (sB q).length)) :: (List.range (sB q).length).map fun j => Cond.eq (.elem (sF q) (.int (Int32.ofNat j))) (.int (iI ((sB q).getD j 0)))
def tabW (q : String × String × List Int) : List Cond := Cond.arrayOf (.static q.1 q.2.1 "[I") .int :: Cond.eq (.length (.static q.1 q.2.1 "[I")) (.int (Int32.ofNat q.2.2.length)) :: (List.range q.2.2.length).map fun j => Cond.eq (.elem (.static q.1 q.2.1 "[I") (.int (Int32.ofNat j))) (.int (iI (q.2.2.getD j 0)))
def needW : List Cond := strL.flatMap strW ++ (tabL.flatMap tabW ++ [Cond.eq (.static "java/lang/String" "COMPACT_STRINGS" "Z") (.int 1), Cond.isRef (.static "jdk/internal/util/Preconditions" "SIOOBE_FORMATTER" "Ljava/util/function/BiFunction;")])
/-- one pass: what is picked stands at rising places -/
def pick : List Nat → Nat → List Cond → List Cond
  | [], _, _ => []
  | _ :: _, _, [] => []
  | i :: is, k, c :: cs => if i = k then c :: pick is (k + 1) cs else pick (i :: is) (k + 1) cs
theorem pick_sub : ∀ (is : List Nat) (k : Nat) (cs : List Cond) (w : Cond), w ∈ pick is k cs → w ∈ cs
  | [], _, _, _, h => by simp [pick] at h
  | _ :: _, _, [], _, h => by simp [pick] at h
  | i :: is, k, c :: cs, w, h => by
    unfold pick at h
    split at h
    · rcases List.mem_cons.mp h with y | y
      · rw [y]; exact List.mem_cons_self
      · exact List.mem_cons_of_mem _ (pick_sub is (k + 1) cs w y)
    · exact List.mem_cons_of_mem _ (pick_sub (i :: is) (k + 1) cs w h)
def picked : List Cond := pick [107, 108, 109, 110, 111, 112, 113, 114, 115, 116, 117, 118, 119, 120, 121, 122, 123, 124, 125, 126, 127, 128, 129, 130, 131, 132, 133, 134, 135, 136, 137, 138, 139, 140, 141, 142, 143, 144, 145, 146, 147, 148, 149, 150, 151, 152, 153, 154, 155, 156, 157, 158, 159, 160, 161, 162, 163, 164, 165, 166, 167, 168, 169, 170, 171, 172, 173, 174, 175, 176, 177, 178, 179, 180, 181, 182, 183, 184, 185, 186, 187, 188, 189, 190, 191, 192, 193, 194, 195, 196, 197, 198, 199, 200, 201, 202, 203, 204, 205, 206, 207, 208, 209, 210, 211, 212, 213, 214, 215, 216, 217, 218, 219, 220, 221, 222, 223, 224, 225, 226, 227, 228, 229, 230, 231, 232, 233, 234, 235, 236, 237, 238, 239, 240, 241, 242, 243, 244, 245, 246, 247, 248, 249, 250, 251, 252, 253, 254, 255, 256, 257, 258, 259, 261, 262, 263, 264, 265, 266, 267, 268, 269, 270, 271, 272, 273, 274, 275, 276, 277, 278, 279, 280, 281, 282, 283, 284, 285, 286, 287, 288, 289, 290, 291, 292, 294, 295, 296, 297, 298, 299, 300, 301, 303, 304, 305, 306, 307, 308, 309, 310, 311, 313, 314, 315, 316, 317, 318, 319, 320, 322, 323, 324, 325, 326, 327, 328, 329, 331, 332, 333, 334, 335, 336, 337, 338, 341, 342, 343, 344, 345, 346, 347, 349, 350, 351, 352, 353, 354, 355, 356, 358, 359, 360, 361, 362, 363, 364, 365, 367, 368, 369, 370, 371, 372, 373, 374, 376, 377, 378, 379, 380, 381, 382, 383, 385, 386, 387, 388, 389, 390, 391, 392, 394, 395, 396, 397, 398, 399, 400, 401, 403, 404, 405, 406, 407, 408, 409, 410, 411, 413, 414, 415, 416, 417, 418, 419, 420, 421, 423, 424, 425, 426, 427, 428, 429, 431, 432, 433, 434, 435, 436, 437, 438, 440, 441, 442, 443, 444, 445, 446, 448, 449, 450, 451, 452, 453, 454, 456, 457, 458, 459, 460, 461, 462, 463, 465, 466, 467, 468, 469, 470, 471, 472] 0 W0 ++ (pick [36, 37, 38, 39, 40, 41, 42, 43, 44, 45, 46, 47, 48, 50, 51, 52, 53, 54, 55, 56, 57, 58, 59, 60, 61, 62] 0 W0 ++ (pick [5, 6, 7, 8, 9, 10, 11, 12, 13, 14, 15, 16, 17, 64, 65, 66, 67, 68, 69, 70, 71, 72, 73, 74, 76, 77, 78, 79, 80, 81, 82, 83, 84, 85, 86] 0 W0 ++ (pick [19, 20, 21, 22, 23, 24, 25, 26, 27, 28, 29, 30, 31] 0 W0)))
set_option maxRecDepth 100000 in
theorem picked_eq : picked = needW := by decide +kernel
theorem need_mem {w : Cond} (h : w ∈ needW) : w ∈ W0 := by
  rw [← picked_eq] at h
  unfold picked at h
  rcases List.mem_append.mp h with h | h
  · exact pick_sub _ _ _ _ h
  rcases List.mem_append.mp h with h | h
  · exact pick_sub _ _ _ _ h
  rcases List.mem_append.mp h with h | h
  · exact pick_sub _ _ _ _ h
  · exact pick_sub _ _ _ _ h
