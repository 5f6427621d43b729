/-! WHERE THE CELLS LIE, and what a class's objects are -/
def At_X0 (shl : List Shp) (b : Nat) : Prop := shl[b]? = some (.inl (0, [(b + 3), (b + 4), (b + 5), (b + 6), (b + 7), 0, 0, 0, 0])) ∧ shl[b + 1]? = some (.inr (0, 11, [])) ∧ shl[b + 2]? = some (.inr (0, 64, [])) ∧ shl[b + 3]? = some (.inr (0, 64, [])) ∧ shl[b + 4]? = some (.inr (0, 3, [])) ∧ shl[b + 5]? = some (.inr (0, 17, []))
theorem at_X0_o {shl : List Shp} {b : Nat} (h : At_X0 shl b) : shl[b]? = some (.inl (0, [(b + 3), (b + 4), (b + 5), (b + 6), (b + 7), 0, 0, 0, 0])) := h.1
theorem at_X0_numbers {shl : List Shp} {b : Nat} (h : At_X0 shl b) : shl[b + 1]? = some (.inr (0, 11, [])) := h.2.1
theorem at_X0_heaped {shl : List Shp} {b : Nat} (h : At_X0 shl b) : shl[b + 2]? = some (.inr (0, 64, [])) := h.2.2.1
theorem at_X0_stones {shl : List Shp} {b : Nat} (h : At_X0 shl b) : shl[b + 3]? = some (.inr (0, 64, [])) := h.2.2.2.1
theorem at_X0_flagCells {shl : List Shp} {b : Nat} (h : At_X0 shl b) : shl[b + 4]? = some (.inr (0, 3, [])) := h.2.2.2.2.1
theorem at_X0_strength {shl : List Shp} {b : Nat} (h : At_X0 shl b) : shl[b + 5]? = some (.inr (0, 17, [])) := h.2.2.2.2.2
def At_X1 (shl : List Shp) (b : Nat) : Prop := shl[b]? = some (.inl (1, [(b + 3), (b + 4), (b + 5), (b + 6), 0])) ∧ shl[b + 1]? = some (.inr (0, 4, [])) ∧ shl[b + 2]? = some (.inr (0, 32, [])) ∧ shl[b + 3]? = some (.inr (0, 32, [])) ∧ shl[b + 4]? = some (.inr (0, 32, []))
theorem at_X1_o {shl : List Shp} {b : Nat} (h : At_X1 shl b) : shl[b]? = some (.inl (1, [(b + 3), (b + 4), (b + 5), (b + 6), 0])) := h.1
theorem at_X1_acts {shl : List Shp} {b : Nat} (h : At_X1 shl b) : shl[b + 1]? = some (.inr (0, 4, [])) := h.2.1
theorem at_X1_kinds {shl : List Shp} {b : Nat} (h : At_X1 shl b) : shl[b + 2]? = some (.inr (0, 32, [])) := h.2.2.1
theorem at_X1_cells {shl : List Shp} {b : Nat} (h : At_X1 shl b) : shl[b + 3]? = some (.inr (0, 32, [])) := h.2.2.2.1
theorem at_X1_targets {shl : List Shp} {b : Nat} (h : At_X1 shl b) : shl[b + 4]? = some (.inr (0, 32, [])) := h.2.2.2.2
def At_X2 (shl : List Shp) (b : Nat) : Prop := shl[b]? = some (.inl (2, [(b + 3), (b + 4), (b + 5), (b + 6), 0, 0, 0])) ∧ shl[b + 1]? = some (.inr (0, 9, [])) ∧ shl[b + 2]? = some (.inr (0, 12, [])) ∧ shl[b + 3]? = some (.inr (0, 12, [])) ∧ shl[b + 4]? = some (.inr (0, 12, []))
theorem at_X2_o {shl : List Shp} {b : Nat} (h : At_X2 shl b) : shl[b]? = some (.inl (2, [(b + 3), (b + 4), (b + 5), (b + 6), 0, 0, 0])) := h.1
theorem at_X2_numbers {shl : List Shp} {b : Nat} (h : At_X2 shl b) : shl[b + 1]? = some (.inr (0, 9, [])) := h.2.1
theorem at_X2_minutes {shl : List Shp} {b : Nat} (h : At_X2 shl b) : shl[b + 2]? = some (.inr (0, 12, [])) := h.2.2.1
theorem at_X2_reaches {shl : List Shp} {b : Nat} (h : At_X2 shl b) : shl[b + 3]? = some (.inr (0, 12, [])) := h.2.2.2.1
theorem at_X2_levels {shl : List Shp} {b : Nat} (h : At_X2 shl b) : shl[b + 4]? = some (.inr (0, 12, [])) := h.2.2.2.2
def At_X3 (shl : List Shp) (b : Nat) : Prop := shl[b]? = some (.inl (3, [(b + 3), (b + 4), (b + 5), (b + 6), (b + 7), (b + 8), (b + 9), 0, 0, 0, 0, 0, 0, 0, 0, 0])) ∧ shl[b + 1]? = some (.inr (0, 64, [])) ∧ shl[b + 2]? = some (.inr (0, 64, [])) ∧ shl[b + 3]? = some (.inr (0, 64, [])) ∧ shl[b + 4]? = some (.inr (0, 64, [])) ∧ shl[b + 5]? = some (.inr (0, 3, [])) ∧ shl[b + 6]? = some (.inr (0, 4, [])) ∧ shl[b + 7]? = some (.inr (0, 4, []))
theorem at_X3_o {shl : List Shp} {b : Nat} (h : At_X3 shl b) : shl[b]? = some (.inl (3, [(b + 3), (b + 4), (b + 5), (b + 6), (b + 7), (b + 8), (b + 9), 0, 0, 0, 0, 0, 0, 0, 0, 0])) := h.1
theorem at_X3_height {shl : List Shp} {b : Nat} (h : At_X3 shl b) : shl[b + 1]? = some (.inr (0, 64, [])) := h.2.1
theorem at_X3_wet {shl : List Shp} {b : Nat} (h : At_X3 shl b) : shl[b + 2]? = some (.inr (0, 64, [])) := h.2.2.1
theorem at_X3_pack {shl : List Shp} {b : Nat} (h : At_X3 shl b) : shl[b + 3]? = some (.inr (0, 64, [])) := h.2.2.2.1
theorem at_X3_stone {shl : List Shp} {b : Nat} (h : At_X3 shl b) : shl[b + 4]? = some (.inr (0, 64, [])) := h.2.2.2.2.1
theorem at_X3_fell {shl : List Shp} {b : Nat} (h : At_X3 shl b) : shl[b + 5]? = some (.inr (0, 3, [])) := h.2.2.2.2.2.1
theorem at_X3_nextAct {shl : List Shp} {b : Nat} (h : At_X3 shl b) : shl[b + 6]? = some (.inr (0, 4, [])) := h.2.2.2.2.2.2.1
theorem at_X3_actsSinceRest {shl : List Shp} {b : Nat} (h : At_X3 shl b) : shl[b + 7]? = some (.inr (0, 4, [])) := h.2.2.2.2.2.2.2
def At_X4 (shl : List Shp) (b : Nat) : Prop := shl[b]? = some (.inl (4, [(b + 3)])) ∧ shl[b + 1]? = some (.inr (0, 9, []))
theorem at_X4_o {shl : List Shp} {b : Nat} (h : At_X4 shl b) : shl[b]? = some (.inl (4, [(b + 3)])) := h.1
theorem at_X4_height {shl : List Shp} {b : Nat} (h : At_X4 shl b) : shl[b + 1]? = some (.inr (0, 9, [])) := h.2
def At_X5 (shl : List Shp) (b : Nat) : Prop := shl[b]? = some (.inl (5, [(b + 3), 0, 0, 0, 0, 0, 0, 0])) ∧ shl[b + 1]? = some (.inr (0, 900, []))
theorem at_X5_o {shl : List Shp} {b : Nat} (h : At_X5 shl b) : shl[b]? = some (.inl (5, [(b + 3), 0, 0, 0, 0, 0, 0, 0])) := h.1
theorem at_X5_bytes {shl : List Shp} {b : Nat} (h : At_X5 shl b) : shl[b + 1]? = some (.inr (0, 900, [])) := h.2
def At_X7 (shl : List Shp) (b : Nat) : Prop := shl[b]? = some (.inl (7, [0, 0, 0, (b + 3), (b + 4), (b + 5), (b + 6), (b + 7), (b + 8), (b + 9), (b + 10), (b + 11)])) ∧ shl[b + 1]? = some (.inr (0, 16, [])) ∧ shl[b + 2]? = some (.inr (0, 16, [])) ∧ shl[b + 3]? = some (.inr (0, 16, [])) ∧ shl[b + 4]? = some (.inr (0, 16, [])) ∧ shl[b + 5]? = some (.inr (0, 20, [])) ∧ shl[b + 6]? = some (.inr (0, 20, [])) ∧ shl[b + 7]? = some (.inr (0, 20, [])) ∧ shl[b + 8]? = some (.inr (0, 16, [])) ∧ shl[b + 9]? = some (.inr (0, 336, []))
theorem at_X7_o {shl : List Shp} {b : Nat} (h : At_X7 shl b) : shl[b]? = some (.inl (7, [0, 0, 0, (b + 3), (b + 4), (b + 5), (b + 6), (b + 7), (b + 8), (b + 9), (b + 10), (b + 11)])) := h.1
theorem at_X7_steps {shl : List Shp} {b : Nat} (h : At_X7 shl b) : shl[b + 1]? = some (.inr (0, 16, [])) := h.2.1
theorem at_X7_wets {shl : List Shp} {b : Nat} (h : At_X7 shl b) : shl[b + 2]? = some (.inr (0, 16, [])) := h.2.2.1
theorem at_X7_steeps {shl : List Shp} {b : Nat} (h : At_X7 shl b) : shl[b + 3]? = some (.inr (0, 16, [])) := h.2.2.2.1
theorem at_X7_stoods {shl : List Shp} {b : Nat} (h : At_X7 shl b) : shl[b + 4]? = some (.inr (0, 16, [])) := h.2.2.2.2.1
theorem at_X7_rightSteps {shl : List Shp} {b : Nat} (h : At_X7 shl b) : shl[b + 5]? = some (.inr (0, 20, [])) := h.2.2.2.2.2.1
theorem at_X7_rightOf {shl : List Shp} {b : Nat} (h : At_X7 shl b) : shl[b + 6]? = some (.inr (0, 20, [])) := h.2.2.2.2.2.2.1
theorem at_X7_rightStoods {shl : List Shp} {b : Nat} (h : At_X7 shl b) : shl[b + 7]? = some (.inr (0, 20, [])) := h.2.2.2.2.2.2.2.1
theorem at_X7_known {shl : List Shp} {b : Nat} (h : At_X7 shl b) : shl[b + 8]? = some (.inr (0, 16, [])) := h.2.2.2.2.2.2.2.2.1
theorem at_X7_tally {shl : List Shp} {b : Nat} (h : At_X7 shl b) : shl[b + 9]? = some (.inr (0, 336, [])) := h.2.2.2.2.2.2.2.2.2
def At_X6 (shl : List Shp) (b : Nat) : Prop := shl[b]? = some (.inl (6, [(b + 3), (b + 11), (b + 12), (b + 13), (b + 14), 0, 0])) ∧ At_X3 shl (b + 1) ∧ shl[b + 9]? = some (.inr (0, 2, [])) ∧ shl[b + 10]? = some (.inr (0, 2, [])) ∧ shl[b + 11]? = some (.inr (0, 2, [])) ∧ shl[b + 12]? = some (.inr (0, 99, []))
theorem at_X6_o {shl : List Shp} {b : Nat} (h : At_X6 shl b) : shl[b]? = some (.inl (6, [(b + 3), (b + 11), (b + 12), (b + 13), (b + 14), 0, 0])) := h.1
theorem at_X6_shore {shl : List Shp} {b : Nat} (h : At_X6 shl b) : At_X3 shl (b + 1) := h.2.1
theorem at_X6_lasts {shl : List Shp} {b : Nat} (h : At_X6 shl b) : shl[b + 9]? = some (.inr (0, 2, [])) := h.2.2.1
theorem at_X6_watchedCells {shl : List Shp} {b : Nat} (h : At_X6 shl b) : shl[b + 10]? = some (.inr (0, 2, [])) := h.2.2.2.1
theorem at_X6_floors {shl : List Shp} {b : Nat} (h : At_X6 shl b) : shl[b + 11]? = some (.inr (0, 2, [])) := h.2.2.2.2.1
theorem at_X6_works {shl : List Shp} {b : Nat} (h : At_X6 shl b) : shl[b + 12]? = some (.inr (0, 99, [])) := h.2.2.2.2.2
def At_X8 (shl : List Shp) : Prop := shl[0]? = some (.inl (8, [3, 1, 1, 1, 1, 27, 0, 28, 36, 37, 38, 48, 61])) ∧ At_X5 shl 1 ∧ shl[25]? = some (.inr (3, 3, [62, 67, 72])) ∧ At_X3 shl 26 ∧ shl[34]? = some (.inr (4, 3, [77, 85, 93])) ∧ shl[35]? = some (.inr (2, 3, [])) ∧ At_X7 shl 36 ∧ At_X6 shl 46 ∧ At_X4 shl 59 ∧ (∀ q, q ∈ [3, 9] → At_X0 shl q) ∧ (∀ q, q ∈ [15, 20] → At_X2 shl q) ∧ (∀ j, j < 3 → At_X1 shl (61 + 5 * j)) ∧ (∀ j, j < 3 → At_X3 shl (76 + 8 * j))
theorem at_X8_o {shl : List Shp} (h : At_X8 shl) : shl[0]? = some (.inl (8, [3, 1, 1, 1, 1, 27, 0, 28, 36, 37, 38, 48, 61])) := h.1
theorem at_X8_tape {shl : List Shp} (h : At_X8 shl) : At_X5 shl 1 := h.2.1
theorem at_X8_plans {shl : List Shp} (h : At_X8 shl) : shl[25]? = some (.inr (3, 3, [62, 67, 72])) := h.2.2.1
theorem at_X8_now {shl : List Shp} (h : At_X8 shl) : At_X3 shl 26 := h.2.2.2.1
theorem at_X8_slots {shl : List Shp} (h : At_X8 shl) : shl[34]? = some (.inr (4, 3, [77, 85, 93])) := h.2.2.2.2.1
theorem at_X8_isKept {shl : List Shp} (h : At_X8 shl) : shl[35]? = some (.inr (2, 3, [])) := h.2.2.2.2.2.1
theorem at_X8_tries {shl : List Shp} (h : At_X8 shl) : At_X7 shl 36 := h.2.2.2.2.2.2.1
theorem at_X8_trial {shl : List Shp} (h : At_X8 shl) : At_X6 shl 46 := h.2.2.2.2.2.2.2.1
theorem at_X8_pile {shl : List Shp} (h : At_X8 shl) : At_X4 shl 59 := h.2.2.2.2.2.2.2.2.1
theorem at_X8_beaches {shl : List Shp} (h : At_X8 shl) : (∀ q, q ∈ [3, 9] → At_X0 shl q) := h.2.2.2.2.2.2.2.2.2.1
theorem at_X8_seas {shl : List Shp} (h : At_X8 shl) : (∀ q, q ∈ [15, 20] → At_X2 shl q) := h.2.2.2.2.2.2.2.2.2.2.1
theorem at_X8_planAt {shl : List Shp} (h : At_X8 shl) : (∀ j, j < 3 → At_X1 shl (61 + 5 * j)) := h.2.2.2.2.2.2.2.2.2.2.2.1
theorem at_X8_slotAt {shl : List Shp} (h : At_X8 shl) : (∀ j, j < 3 → At_X3 shl (76 + 8 * j)) := h.2.2.2.2.2.2.2.2.2.2.2.2
def At_X9 (shl : List Shp) : Prop := shl[100]? = some (.inl (9, [103, 0, 0, 0, 0, 0, 0, 0, 0, 0, 0, 0, 0, 0, 0, 0, 0, 0, 0, 104, 105, 106, 107, 108, 109, 110, 111, 0, 0, 0, 0, 112, 113, 114, 115, 116, 117, 118, 119, 0, 0, 0, 0, 120, 121, 122, 123, 124, 125, 126, 127, 0, 0, 0, 128, 129, 130, 131, 132, 133, 134, 135])) ∧ shl[101]? = some (.inr (1, 900, [])) ∧ shl[102]? = some (.inr (0, 9, [])) ∧ shl[103]? = some (.inr (0, 9, [])) ∧ shl[104]? = some (.inr (0, 64, [])) ∧ shl[105]? = some (.inr (0, 64, [])) ∧ shl[106]? = some (.inr (0, 3, [])) ∧ shl[107]? = some (.inr (0, 3, [])) ∧ shl[108]? = some (.inr (2, 64, [])) ∧ shl[109]? = some (.inr (2, 64, [])) ∧ shl[110]? = some (.inr (0, 36, [])) ∧ shl[111]? = some (.inr (0, 36, [])) ∧ shl[112]? = some (.inr (0, 4, [])) ∧ shl[113]? = some (.inr (0, 4, [])) ∧ shl[114]? = some (.inr (0, 2, [])) ∧ shl[115]? = some (.inr (0, 2, [])) ∧ shl[116]? = some (.inr (0, 2, [])) ∧ shl[117]? = some (.inr (0, 2, [])) ∧ shl[118]? = some (.inr (0, 3, [])) ∧ shl[119]? = some (.inr (0, 12, [])) ∧ shl[120]? = some (.inr (0, 288, [])) ∧ shl[121]? = some (.inr (0, 289, [])) ∧ shl[122]? = some (.inr (0, 289, [])) ∧ shl[123]? = some (.inr (0, 867, [])) ∧ shl[124]? = some (.inr (2, 3, [])) ∧ shl[125]? = some (.inr (0, 9, [])) ∧ shl[126]? = some (.inr (0, 16, [])) ∧ shl[127]? = some (.inr (0, 16, [])) ∧ shl[128]? = some (.inr (0, 16, [])) ∧ shl[129]? = some (.inr (0, 16, [])) ∧ shl[130]? = some (.inr (0, 20, [])) ∧ shl[131]? = some (.inr (0, 20, [])) ∧ shl[132]? = some (.inr (0, 20, [])) ∧ shl[133]? = some (.inr (0, 496, []))
theorem at_X9_o {shl : List Shp} (h : At_X9 shl) : shl[100]? = some (.inl (9, [103, 0, 0, 0, 0, 0, 0, 0, 0, 0, 0, 0, 0, 0, 0, 0, 0, 0, 0, 104, 105, 106, 107, 108, 109, 110, 111, 0, 0, 0, 0, 112, 113, 114, 115, 116, 117, 118, 119, 0, 0, 0, 0, 120, 121, 122, 123, 124, 125, 126, 127, 0, 0, 0, 128, 129, 130, 131, 132, 133, 134, 135])) := h.1
theorem at_X9_tape {shl : List Shp} (h : At_X9 shl) : shl[101]? = some (.inr (1, 900, [])) := h.2.1
theorem at_X9_law {shl : List Shp} (h : At_X9 shl) : shl[102]? = some (.inr (0, 9, [])) := h.2.2.1
theorem at_X9_readLaw {shl : List Shp} (h : At_X9 shl) : shl[103]? = some (.inr (0, 9, [])) := h.2.2.2.1
theorem at_X9_heap {shl : List Shp} (h : At_X9 shl) : shl[104]? = some (.inr (0, 64, [])) := h.2.2.2.2.1
theorem at_X9_readHeap {shl : List Shp} (h : At_X9 shl) : shl[105]? = some (.inr (0, 64, [])) := h.2.2.2.2.2.1
theorem at_X9_flagAt {shl : List Shp} (h : At_X9 shl) : shl[106]? = some (.inr (0, 3, [])) := h.2.2.2.2.2.2.1
theorem at_X9_readFlagAt {shl : List Shp} (h : At_X9 shl) : shl[107]? = some (.inr (0, 3, [])) := h.2.2.2.2.2.2.2.1
theorem at_X9_isStone {shl : List Shp} (h : At_X9 shl) : shl[108]? = some (.inr (2, 64, [])) := h.2.2.2.2.2.2.2.2.1
theorem at_X9_readStone {shl : List Shp} (h : At_X9 shl) : shl[109]? = some (.inr (2, 64, [])) := h.2.2.2.2.2.2.2.2.2.1
theorem at_X9_wave {shl : List Shp} (h : At_X9 shl) : shl[110]? = some (.inr (0, 36, [])) := h.2.2.2.2.2.2.2.2.2.2.1
theorem at_X9_readWave {shl : List Shp} (h : At_X9 shl) : shl[111]? = some (.inr (0, 36, [])) := h.2.2.2.2.2.2.2.2.2.2.2.1
theorem at_X9_tide {shl : List Shp} (h : At_X9 shl) : shl[112]? = some (.inr (0, 4, [])) := h.2.2.2.2.2.2.2.2.2.2.2.2.1
theorem at_X9_readTide {shl : List Shp} (h : At_X9 shl) : shl[113]? = some (.inr (0, 4, [])) := h.2.2.2.2.2.2.2.2.2.2.2.2.2.1
theorem at_X9_reach {shl : List Shp} (h : At_X9 shl) : shl[114]? = some (.inr (0, 2, [])) := h.2.2.2.2.2.2.2.2.2.2.2.2.2.2.1
theorem at_X9_level {shl : List Shp} (h : At_X9 shl) : shl[115]? = some (.inr (0, 2, [])) := h.2.2.2.2.2.2.2.2.2.2.2.2.2.2.2.1
theorem at_X9_readReach {shl : List Shp} (h : At_X9 shl) : shl[116]? = some (.inr (0, 2, [])) := h.2.2.2.2.2.2.2.2.2.2.2.2.2.2.2.2.1
theorem at_X9_readLevel {shl : List Shp} (h : At_X9 shl) : shl[117]? = some (.inr (0, 2, [])) := h.2.2.2.2.2.2.2.2.2.2.2.2.2.2.2.2.2.1
theorem at_X9_hands {shl : List Shp} (h : At_X9 shl) : shl[118]? = some (.inr (0, 3, [])) := h.2.2.2.2.2.2.2.2.2.2.2.2.2.2.2.2.2.2.1
theorem at_X9_acts {shl : List Shp} (h : At_X9 shl) : shl[119]? = some (.inr (0, 12, [])) := h.2.2.2.2.2.2.2.2.2.2.2.2.2.2.2.2.2.2.2.1
theorem at_X9_act {shl : List Shp} (h : At_X9 shl) : shl[120]? = some (.inr (0, 288, [])) := h.2.2.2.2.2.2.2.2.2.2.2.2.2.2.2.2.2.2.2.2.1
theorem at_X9_now {shl : List Shp} (h : At_X9 shl) : shl[121]? = some (.inr (0, 289, [])) := h.2.2.2.2.2.2.2.2.2.2.2.2.2.2.2.2.2.2.2.2.2.1
theorem at_X9_trial {shl : List Shp} (h : At_X9 shl) : shl[122]? = some (.inr (0, 289, [])) := h.2.2.2.2.2.2.2.2.2.2.2.2.2.2.2.2.2.2.2.2.2.2.1
theorem at_X9_kept {shl : List Shp} (h : At_X9 shl) : shl[123]? = some (.inr (0, 867, [])) := h.2.2.2.2.2.2.2.2.2.2.2.2.2.2.2.2.2.2.2.2.2.2.2.1
theorem at_X9_isKept {shl : List Shp} (h : At_X9 shl) : shl[124]? = some (.inr (2, 3, [])) := h.2.2.2.2.2.2.2.2.2.2.2.2.2.2.2.2.2.2.2.2.2.2.2.2.1
theorem at_X9_heaped {shl : List Shp} (h : At_X9 shl) : shl[125]? = some (.inr (0, 9, [])) := h.2.2.2.2.2.2.2.2.2.2.2.2.2.2.2.2.2.2.2.2.2.2.2.2.2.1
theorem at_X9_triedWet {shl : List Shp} (h : At_X9 shl) : shl[126]? = some (.inr (0, 16, [])) := h.2.2.2.2.2.2.2.2.2.2.2.2.2.2.2.2.2.2.2.2.2.2.2.2.2.2.1
theorem at_X9_triedSteep {shl : List Shp} (h : At_X9 shl) : shl[127]? = some (.inr (0, 16, [])) := h.2.2.2.2.2.2.2.2.2.2.2.2.2.2.2.2.2.2.2.2.2.2.2.2.2.2.2.1
theorem at_X9_triedStood {shl : List Shp} (h : At_X9 shl) : shl[128]? = some (.inr (0, 16, [])) := h.2.2.2.2.2.2.2.2.2.2.2.2.2.2.2.2.2.2.2.2.2.2.2.2.2.2.2.2.1
theorem at_X9_triedAt {shl : List Shp} (h : At_X9 shl) : shl[129]? = some (.inr (0, 16, [])) := h.2.2.2.2.2.2.2.2.2.2.2.2.2.2.2.2.2.2.2.2.2.2.2.2.2.2.2.2.2.1
theorem at_X9_rightOf {shl : List Shp} (h : At_X9 shl) : shl[130]? = some (.inr (0, 20, [])) := h.2.2.2.2.2.2.2.2.2.2.2.2.2.2.2.2.2.2.2.2.2.2.2.2.2.2.2.2.2.2.1
theorem at_X9_rightStood {shl : List Shp} (h : At_X9 shl) : shl[131]? = some (.inr (0, 20, [])) := h.2.2.2.2.2.2.2.2.2.2.2.2.2.2.2.2.2.2.2.2.2.2.2.2.2.2.2.2.2.2.2.1
theorem at_X9_rightAt {shl : List Shp} (h : At_X9 shl) : shl[132]? = some (.inr (0, 20, [])) := h.2.2.2.2.2.2.2.2.2.2.2.2.2.2.2.2.2.2.2.2.2.2.2.2.2.2.2.2.2.2.2.2.1
theorem at_X9_standing {shl : List Shp} (h : At_X9 shl) : shl[133]? = some (.inr (0, 496, [])) := h.2.2.2.2.2.2.2.2.2.2.2.2.2.2.2.2.2.2.2.2.2.2.2.2.2.2.2.2.2.2.2.2.2
theorem tabR : ∀ {k : Nat} {q : String × String × List Int}, tabL[k]? = some q → ∀ j, j < q.2.2.length → inR (q.2.2.getD j 0) := by
  have key : ∀ x ∈ tabL, ∀ j, j < x.2.2.length → -2147483648 ≤ x.2.2.getD j 0 ∧ x.2.2.getD j 0 < 2147483648 := by decide +kernel
  intro k q h
  exact key q (List.mem_of_getElem? h)
theorem nullAt {shl : List Shp} : 0 ≤ (-1 : Int) → At_X1 shl (-1 : Int).toNat := fun h => absurd h (by decide)
theorem planN {shl : List Shp} {h : Hp} {x r : Int} (H : At_X8 shl) (hg : g_X8_planOrNull x h = some r) : 0 ≤ r → At_X1 shl r.toNat := by
  intro hr
  unfold g_X8_planOrNull at hg
  split at hg
  · cases hg; omega
  · simp only [gF] at hg
    split at hg
    · cases hg; omega
    · simp only [rdQ] at hg
      split at hg
      next hx =>
        cases hg
        have := at_X8_planAt H x.toNat (by omega)
        exact this
      next => cases hg
theorem nest_X0_86 : (RX0, 86, yX8_strengthOf, "TideKeep") ∈ nestL := by decide +kernel
theorem nest_X7_49 : (RX7, 49, yX8_strengthOf, "TideKeep") ∈ nestL := by decide +kernel
theorem npv_cat {ad : Nat → Nat} {q : Int} : (npv ad q).category = 1 := by
  unfold npv
  split <;> rfl
theorem okSet_npv {ad : Nat → Nat} {q : Int} {L : List (Option Value)} {j : Nat} (h : L[j]? = some (some (npv ad q))) : okSet L (j + 1) = true := by
  unfold npv at h
  split at h <;> simp [okSet, h]
theorem cat_int {x : Int32} : (Value.int x).category = 1 := rfl
theorem cat_ref {x : Nat} : (Value.ref x).category = 1 := rfl
section LDCW
variable {E : EnvT} {ad : Nat → Nat} {shl : List Shp} {p : Program} {l : Launch} {e : Env} {Rm : Room} {s : State} {m : MethodId} {args : Array Value} {below : List Frame} {meth : Method} {c : Code} {cells slots : Nat} {Q : State → Prop} {nL : Nat} {cc : ByteArray} {own : String} {ret : Option FieldType} {h : Hp} {pc : Nat} {L : List (Option Value)} {S : List Value} {R : Type} {res : R}
theorem r_ldc_w (X : Cx E p s m args meth c cc own nL ret) {n : Int} {v : Int32} {idx : Nat} {K : Int → Option R} (hd : decode cc pc = .ok (.ldc_w idx, 3)) (w : Cond.constant own idx v ∈ gw) (hG : cI n K = some res) (hv : v.toInt = n) (kk : ∀ Z : Int32, K Z.toInt = some res → Ev E ad shl p l e Rm s m args below meth c cells slots Q nL h (pc + 3) L (.int Z :: S)) : Ev E ad shl p l e Rm s m args below meth c cells slots Q nL h pc L S :=
  fun H locs ls hc hs hl => lv_ldcw X.1 X.2.1 X.2.2.2.1 (X.2.2.2.2.1 _ w) hd (kk v (by rw [hv]; exact hG) H locs ls hc hs hl)
end LDCW

