/-! THE MODEL: its rows as they are made, its cells as a list of writes -/
def cs9_0 : List Nat := [1, 0, 0, 0, 0, 0, 0, 0, 0, 0, 0, 0, 0, 0, 0, 0, 0, 0, 0, 1, 1, 1, 1, 1, 1, 1, 1, 0, 0, 0, 0, 1, 1, 1, 1, 1, 1, 1, 1, 0, 0, 0, 0, 1, 1, 1, 1, 1, 1, 1, 1, 0, 0, 0, 1, 1, 1, 1, 1, 1, 1, 1]
def cs9_1 : List Nat := [103, 0, 0, 0, 0, 0, 0, 0, 0, 0, 0, 0, 0, 0, 0, 0, 0, 0, 0, 1, 1, 1, 1, 1, 1, 1, 1, 0, 0, 0, 0, 1, 1, 1, 1, 1, 1, 1, 1, 0, 0, 0, 0, 1, 1, 1, 1, 1, 1, 1, 1, 0, 0, 0, 1, 1, 1, 1, 1, 1, 1, 1]
def cs9_2 : List Nat := [103, 0, 0, 0, 0, 0, 0, 0, 0, 0, 0, 0, 0, 0, 0, 0, 0, 0, 0, 104, 1, 1, 1, 1, 1, 1, 1, 0, 0, 0, 0, 1, 1, 1, 1, 1, 1, 1, 1, 0, 0, 0, 0, 1, 1, 1, 1, 1, 1, 1, 1, 0, 0, 0, 1, 1, 1, 1, 1, 1, 1, 1]
def cs9_3 : List Nat := [103, 0, 0, 0, 0, 0, 0, 0, 0, 0, 0, 0, 0, 0, 0, 0, 0, 0, 0, 104, 105, 1, 1, 1, 1, 1, 1, 0, 0, 0, 0, 1, 1, 1, 1, 1, 1, 1, 1, 0, 0, 0, 0, 1, 1, 1, 1, 1, 1, 1, 1, 0, 0, 0, 1, 1, 1, 1, 1, 1, 1, 1]
def cs9_4 : List Nat := [103, 0, 0, 0, 0, 0, 0, 0, 0, 0, 0, 0, 0, 0, 0, 0, 0, 0, 0, 104, 105, 106, 1, 1, 1, 1, 1, 0, 0, 0, 0, 1, 1, 1, 1, 1, 1, 1, 1, 0, 0, 0, 0, 1, 1, 1, 1, 1, 1, 1, 1, 0, 0, 0, 1, 1, 1, 1, 1, 1, 1, 1]
def cs9_5 : List Nat := [103, 0, 0, 0, 0, 0, 0, 0, 0, 0, 0, 0, 0, 0, 0, 0, 0, 0, 0, 104, 105, 106, 107, 1, 1, 1, 1, 0, 0, 0, 0, 1, 1, 1, 1, 1, 1, 1, 1, 0, 0, 0, 0, 1, 1, 1, 1, 1, 1, 1, 1, 0, 0, 0, 1, 1, 1, 1, 1, 1, 1, 1]
def cs9_6 : List Nat := [103, 0, 0, 0, 0, 0, 0, 0, 0, 0, 0, 0, 0, 0, 0, 0, 0, 0, 0, 104, 105, 106, 107, 108, 1, 1, 1, 0, 0, 0, 0, 1, 1, 1, 1, 1, 1, 1, 1, 0, 0, 0, 0, 1, 1, 1, 1, 1, 1, 1, 1, 0, 0, 0, 1, 1, 1, 1, 1, 1, 1, 1]
def cs9_7 : List Nat := [103, 0, 0, 0, 0, 0, 0, 0, 0, 0, 0, 0, 0, 0, 0, 0, 0, 0, 0, 104, 105, 106, 107, 108, 109, 1, 1, 0, 0, 0, 0, 1, 1, 1, 1, 1, 1, 1, 1, 0, 0, 0, 0, 1, 1, 1, 1, 1, 1, 1, 1, 0, 0, 0, 1, 1, 1, 1, 1, 1, 1, 1]
def cs9_8 : List Nat := [103, 0, 0, 0, 0, 0, 0, 0, 0, 0, 0, 0, 0, 0, 0, 0, 0, 0, 0, 104, 105, 106, 107, 108, 109, 110, 1, 0, 0, 0, 0, 1, 1, 1, 1, 1, 1, 1, 1, 0, 0, 0, 0, 1, 1, 1, 1, 1, 1, 1, 1, 0, 0, 0, 1, 1, 1, 1, 1, 1, 1, 1]
def cs9_9 : List Nat := [103, 0, 0, 0, 0, 0, 0, 0, 0, 0, 0, 0, 0, 0, 0, 0, 0, 0, 0, 104, 105, 106, 107, 108, 109, 110, 111, 0, 0, 0, 0, 1, 1, 1, 1, 1, 1, 1, 1, 0, 0, 0, 0, 1, 1, 1, 1, 1, 1, 1, 1, 0, 0, 0, 1, 1, 1, 1, 1, 1, 1, 1]
def cs9_10 : List Nat := [103, 0, 0, 0, 0, 0, 0, 0, 0, 0, 0, 0, 0, 0, 0, 0, 0, 0, 0, 104, 105, 106, 107, 108, 109, 110, 111, 0, 0, 0, 0, 112, 1, 1, 1, 1, 1, 1, 1, 0, 0, 0, 0, 1, 1, 1, 1, 1, 1, 1, 1, 0, 0, 0, 1, 1, 1, 1, 1, 1, 1, 1]
def cs9_11 : List Nat := [103, 0, 0, 0, 0, 0, 0, 0, 0, 0, 0, 0, 0, 0, 0, 0, 0, 0, 0, 104, 105, 106, 107, 108, 109, 110, 111, 0, 0, 0, 0, 112, 113, 1, 1, 1, 1, 1, 1, 0, 0, 0, 0, 1, 1, 1, 1, 1, 1, 1, 1, 0, 0, 0, 1, 1, 1, 1, 1, 1, 1, 1]
def cs9_12 : List Nat := [103, 0, 0, 0, 0, 0, 0, 0, 0, 0, 0, 0, 0, 0, 0, 0, 0, 0, 0, 104, 105, 106, 107, 108, 109, 110, 111, 0, 0, 0, 0, 112, 113, 114, 1, 1, 1, 1, 1, 0, 0, 0, 0, 1, 1, 1, 1, 1, 1, 1, 1, 0, 0, 0, 1, 1, 1, 1, 1, 1, 1, 1]
def cs9_13 : List Nat := [103, 0, 0, 0, 0, 0, 0, 0, 0, 0, 0, 0, 0, 0, 0, 0, 0, 0, 0, 104, 105, 106, 107, 108, 109, 110, 111, 0, 0, 0, 0, 112, 113, 114, 115, 1, 1, 1, 1, 0, 0, 0, 0, 1, 1, 1, 1, 1, 1, 1, 1, 0, 0, 0, 1, 1, 1, 1, 1, 1, 1, 1]
def cs9_14 : List Nat := [103, 0, 0, 0, 0, 0, 0, 0, 0, 0, 0, 0, 0, 0, 0, 0, 0, 0, 0, 104, 105, 106, 107, 108, 109, 110, 111, 0, 0, 0, 0, 112, 113, 114, 115, 116, 1, 1, 1, 0, 0, 0, 0, 1, 1, 1, 1, 1, 1, 1, 1, 0, 0, 0, 1, 1, 1, 1, 1, 1, 1, 1]
def cs9_15 : List Nat := [103, 0, 0, 0, 0, 0, 0, 0, 0, 0, 0, 0, 0, 0, 0, 0, 0, 0, 0, 104, 105, 106, 107, 108, 109, 110, 111, 0, 0, 0, 0, 112, 113, 114, 115, 116, 117, 1, 1, 0, 0, 0, 0, 1, 1, 1, 1, 1, 1, 1, 1, 0, 0, 0, 1, 1, 1, 1, 1, 1, 1, 1]
def cs9_16 : List Nat := [103, 0, 0, 0, 0, 0, 0, 0, 0, 0, 0, 0, 0, 0, 0, 0, 0, 0, 0, 104, 105, 106, 107, 108, 109, 110, 111, 0, 0, 0, 0, 112, 113, 114, 115, 116, 117, 118, 1, 0, 0, 0, 0, 1, 1, 1, 1, 1, 1, 1, 1, 0, 0, 0, 1, 1, 1, 1, 1, 1, 1, 1]
def cs9_17 : List Nat := [103, 0, 0, 0, 0, 0, 0, 0, 0, 0, 0, 0, 0, 0, 0, 0, 0, 0, 0, 104, 105, 106, 107, 108, 109, 110, 111, 0, 0, 0, 0, 112, 113, 114, 115, 116, 117, 118, 119, 0, 0, 0, 0, 1, 1, 1, 1, 1, 1, 1, 1, 0, 0, 0, 1, 1, 1, 1, 1, 1, 1, 1]
def cs9_18 : List Nat := [103, 0, 0, 0, 0, 0, 0, 0, 0, 0, 0, 0, 0, 0, 0, 0, 0, 0, 0, 104, 105, 106, 107, 108, 109, 110, 111, 0, 0, 0, 0, 112, 113, 114, 115, 116, 117, 118, 119, 0, 0, 0, 0, 120, 1, 1, 1, 1, 1, 1, 1, 0, 0, 0, 1, 1, 1, 1, 1, 1, 1, 1]
def cs9_19 : List Nat := [103, 0, 0, 0, 0, 0, 0, 0, 0, 0, 0, 0, 0, 0, 0, 0, 0, 0, 0, 104, 105, 106, 107, 108, 109, 110, 111, 0, 0, 0, 0, 112, 113, 114, 115, 116, 117, 118, 119, 0, 0, 0, 0, 120, 121, 1, 1, 1, 1, 1, 1, 0, 0, 0, 1, 1, 1, 1, 1, 1, 1, 1]
def cs9_20 : List Nat := [103, 0, 0, 0, 0, 0, 0, 0, 0, 0, 0, 0, 0, 0, 0, 0, 0, 0, 0, 104, 105, 106, 107, 108, 109, 110, 111, 0, 0, 0, 0, 112, 113, 114, 115, 116, 117, 118, 119, 0, 0, 0, 0, 120, 121, 122, 1, 1, 1, 1, 1, 0, 0, 0, 1, 1, 1, 1, 1, 1, 1, 1]
def cs9_21 : List Nat := [103, 0, 0, 0, 0, 0, 0, 0, 0, 0, 0, 0, 0, 0, 0, 0, 0, 0, 0, 104, 105, 106, 107, 108, 109, 110, 111, 0, 0, 0, 0, 112, 113, 114, 115, 116, 117, 118, 119, 0, 0, 0, 0, 120, 121, 122, 123, 1, 1, 1, 1, 0, 0, 0, 1, 1, 1, 1, 1, 1, 1, 1]
def cs9_22 : List Nat := [103, 0, 0, 0, 0, 0, 0, 0, 0, 0, 0, 0, 0, 0, 0, 0, 0, 0, 0, 104, 105, 106, 107, 108, 109, 110, 111, 0, 0, 0, 0, 112, 113, 114, 115, 116, 117, 118, 119, 0, 0, 0, 0, 120, 121, 122, 123, 124, 1, 1, 1, 0, 0, 0, 1, 1, 1, 1, 1, 1, 1, 1]
def cs9_23 : List Nat := [103, 0, 0, 0, 0, 0, 0, 0, 0, 0, 0, 0, 0, 0, 0, 0, 0, 0, 0, 104, 105, 106, 107, 108, 109, 110, 111, 0, 0, 0, 0, 112, 113, 114, 115, 116, 117, 118, 119, 0, 0, 0, 0, 120, 121, 122, 123, 124, 125, 1, 1, 0, 0, 0, 1, 1, 1, 1, 1, 1, 1, 1]
def cs9_24 : List Nat := [103, 0, 0, 0, 0, 0, 0, 0, 0, 0, 0, 0, 0, 0, 0, 0, 0, 0, 0, 104, 105, 106, 107, 108, 109, 110, 111, 0, 0, 0, 0, 112, 113, 114, 115, 116, 117, 118, 119, 0, 0, 0, 0, 120, 121, 122, 123, 124, 125, 126, 1, 0, 0, 0, 1, 1, 1, 1, 1, 1, 1, 1]
def cs9_25 : List Nat := [103, 0, 0, 0, 0, 0, 0, 0, 0, 0, 0, 0, 0, 0, 0, 0, 0, 0, 0, 104, 105, 106, 107, 108, 109, 110, 111, 0, 0, 0, 0, 112, 113, 114, 115, 116, 117, 118, 119, 0, 0, 0, 0, 120, 121, 122, 123, 124, 125, 126, 127, 0, 0, 0, 1, 1, 1, 1, 1, 1, 1, 1]
def cs9_26 : List Nat := [103, 0, 0, 0, 0, 0, 0, 0, 0, 0, 0, 0, 0, 0, 0, 0, 0, 0, 0, 104, 105, 106, 107, 108, 109, 110, 111, 0, 0, 0, 0, 112, 113, 114, 115, 116, 117, 118, 119, 0, 0, 0, 0, 120, 121, 122, 123, 124, 125, 126, 127, 0, 0, 0, 128, 1, 1, 1, 1, 1, 1, 1]
def cs9_27 : List Nat := [103, 0, 0, 0, 0, 0, 0, 0, 0, 0, 0, 0, 0, 0, 0, 0, 0, 0, 0, 104, 105, 106, 107, 108, 109, 110, 111, 0, 0, 0, 0, 112, 113, 114, 115, 116, 117, 118, 119, 0, 0, 0, 0, 120, 121, 122, 123, 124, 125, 126, 127, 0, 0, 0, 128, 129, 1, 1, 1, 1, 1, 1]
def cs9_28 : List Nat := [103, 0, 0, 0, 0, 0, 0, 0, 0, 0, 0, 0, 0, 0, 0, 0, 0, 0, 0, 104, 105, 106, 107, 108, 109, 110, 111, 0, 0, 0, 0, 112, 113, 114, 115, 116, 117, 118, 119, 0, 0, 0, 0, 120, 121, 122, 123, 124, 125, 126, 127, 0, 0, 0, 128, 129, 130, 1, 1, 1, 1, 1]
def cs9_29 : List Nat := [103, 0, 0, 0, 0, 0, 0, 0, 0, 0, 0, 0, 0, 0, 0, 0, 0, 0, 0, 104, 105, 106, 107, 108, 109, 110, 111, 0, 0, 0, 0, 112, 113, 114, 115, 116, 117, 118, 119, 0, 0, 0, 0, 120, 121, 122, 123, 124, 125, 126, 127, 0, 0, 0, 128, 129, 130, 131, 1, 1, 1, 1]
def cs9_30 : List Nat := [103, 0, 0, 0, 0, 0, 0, 0, 0, 0, 0, 0, 0, 0, 0, 0, 0, 0, 0, 104, 105, 106, 107, 108, 109, 110, 111, 0, 0, 0, 0, 112, 113, 114, 115, 116, 117, 118, 119, 0, 0, 0, 0, 120, 121, 122, 123, 124, 125, 126, 127, 0, 0, 0, 128, 129, 130, 131, 132, 1, 1, 1]
def cs9_31 : List Nat := [103, 0, 0, 0, 0, 0, 0, 0, 0, 0, 0, 0, 0, 0, 0, 0, 0, 0, 0, 104, 105, 106, 107, 108, 109, 110, 111, 0, 0, 0, 0, 112, 113, 114, 115, 116, 117, 118, 119, 0, 0, 0, 0, 120, 121, 122, 123, 124, 125, 126, 127, 0, 0, 0, 128, 129, 130, 131, 132, 133, 1, 1]
def cs9_32 : List Nat := [103, 0, 0, 0, 0, 0, 0, 0, 0, 0, 0, 0, 0, 0, 0, 0, 0, 0, 0, 104, 105, 106, 107, 108, 109, 110, 111, 0, 0, 0, 0, 112, 113, 114, 115, 116, 117, 118, 119, 0, 0, 0, 0, 120, 121, 122, 123, 124, 125, 126, 127, 0, 0, 0, 128, 129, 130, 131, 132, 133, 134, 1]
def cs9_33 : List Nat := [103, 0, 0, 0, 0, 0, 0, 0, 0, 0, 0, 0, 0, 0, 0, 0, 0, 0, 0, 104, 105, 106, 107, 108, 109, 110, 111, 0, 0, 0, 0, 112, 113, 114, 115, 116, 117, 118, 119, 0, 0, 0, 0, 120, 121, 122, 123, 124, 125, 126, 127, 0, 0, 0, 128, 129, 130, 131, 132, 133, 134, 135]
def m9_0 : List Shp := [.inl (9, cs9_0)]
def m9_1 : List Shp := [.inl (9, cs9_1), .inr (1, 900, [])]
def m9_2 : List Shp := [.inl (9, cs9_2), .inr (1, 900, []), .inr (0, 9, [])]
def m9_3 : List Shp := [.inl (9, cs9_3), .inr (1, 900, []), .inr (0, 9, []), .inr (0, 9, [])]
def m9_4 : List Shp := [.inl (9, cs9_4), .inr (1, 900, []), .inr (0, 9, []), .inr (0, 9, []), .inr (0, 64, [])]
def m9_5 : List Shp := [.inl (9, cs9_5), .inr (1, 900, []), .inr (0, 9, []), .inr (0, 9, []), .inr (0, 64, []), .inr (0, 64, [])]
def m9_6 : List Shp := [.inl (9, cs9_6), .inr (1, 900, []), .inr (0, 9, []), .inr (0, 9, []), .inr (0, 64, []), .inr (0, 64, []), .inr (0, 3, [])]
def m9_7 : List Shp := [.inl (9, cs9_7), .inr (1, 900, []), .inr (0, 9, []), .inr (0, 9, []), .inr (0, 64, []), .inr (0, 64, []), .inr (0, 3, []), .inr (0, 3, [])]
def m9_8 : List Shp := [.inl (9, cs9_8), .inr (1, 900, []), .inr (0, 9, []), .inr (0, 9, []), .inr (0, 64, []), .inr (0, 64, []), .inr (0, 3, []), .inr (0, 3, []), .inr (2, 64, [])]
def m9_9 : List Shp := [.inl (9, cs9_9), .inr (1, 900, []), .inr (0, 9, []), .inr (0, 9, []), .inr (0, 64, []), .inr (0, 64, []), .inr (0, 3, []), .inr (0, 3, []), .inr (2, 64, []), .inr (2, 64, [])]
def m9_10 : List Shp := [.inl (9, cs9_10), .inr (1, 900, []), .inr (0, 9, []), .inr (0, 9, []), .inr (0, 64, []), .inr (0, 64, []), .inr (0, 3, []), .inr (0, 3, []), .inr (2, 64, []), .inr (2, 64, []), .inr (0, 36, [])]
def m9_11 : List Shp := [.inl (9, cs9_11), .inr (1, 900, []), .inr (0, 9, []), .inr (0, 9, []), .inr (0, 64, []), .inr (0, 64, []), .inr (0, 3, []), .inr (0, 3, []), .inr (2, 64, []), .inr (2, 64, []), .inr (0, 36, []), .inr (0, 36, [])]
def m9_12 : List Shp := [.inl (9, cs9_12), .inr (1, 900, []), .inr (0, 9, []), .inr (0, 9, []), .inr (0, 64, []), .inr (0, 64, []), .inr (0, 3, []), .inr (0, 3, []), .inr (2, 64, []), .inr (2, 64, []), .inr (0, 36, []), .inr (0, 36, []), .inr (0, 4, [])]
def m9_13 : List Shp := [.inl (9, cs9_13), .inr (1, 900, []), .inr (0, 9, []), .inr (0, 9, []), .inr (0, 64, []), .inr (0, 64, []), .inr (0, 3, []), .inr (0, 3, []), .inr (2, 64, []), .inr (2, 64, []), .inr (0, 36, []), .inr (0, 36, []), .inr (0, 4, []), .inr (0, 4, [])]
def m9_14 : List Shp := [.inl (9, cs9_14), .inr (1, 900, []), .inr (0, 9, []), .inr (0, 9, []), .inr (0, 64, []), .inr (0, 64, []), .inr (0, 3, []), .inr (0, 3, []), .inr (2, 64, []), .inr (2, 64, []), .inr (0, 36, []), .inr (0, 36, []), .inr (0, 4, []), .inr (0, 4, []), .inr (0, 2, [])]
def m9_15 : List Shp := [.inl (9, cs9_15), .inr (1, 900, []), .inr (0, 9, []), .inr (0, 9, []), .inr (0, 64, []), .inr (0, 64, []), .inr (0, 3, []), .inr (0, 3, []), .inr (2, 64, []), .inr (2, 64, []), .inr (0, 36, []), .inr (0, 36, []), .inr (0, 4, []), .inr (0, 4, []), .inr (0, 2, []), .inr (0, 2, [])]
def m9_16 : List Shp := [.inl (9, cs9_16), .inr (1, 900, []), .inr (0, 9, []), .inr (0, 9, []), .inr (0, 64, []), .inr (0, 64, []), .inr (0, 3, []), .inr (0, 3, []), .inr (2, 64, []), .inr (2, 64, []), .inr (0, 36, []), .inr (0, 36, []), .inr (0, 4, []), .inr (0, 4, []), .inr (0, 2, []), .inr (0, 2, []), .inr (0, 2, [])]
def m9_17 : List Shp := [.inl (9, cs9_17), .inr (1, 900, []), .inr (0, 9, []), .inr (0, 9, []), .inr (0, 64, []), .inr (0, 64, []), .inr (0, 3, []), .inr (0, 3, []), .inr (2, 64, []), .inr (2, 64, []), .inr (0, 36, []), .inr (0, 36, []), .inr (0, 4, []), .inr (0, 4, []), .inr (0, 2, []), .inr (0, 2, []), .inr (0, 2, []), .inr (0, 2, [])]
def m9_18 : List Shp := [.inl (9, cs9_18), .inr (1, 900, []), .inr (0, 9, []), .inr (0, 9, []), .inr (0, 64, []), .inr (0, 64, []), .inr (0, 3, []), .inr (0, 3, []), .inr (2, 64, []), .inr (2, 64, []), .inr (0, 36, []), .inr (0, 36, []), .inr (0, 4, []), .inr (0, 4, []), .inr (0, 2, []), .inr (0, 2, []), .inr (0, 2, []), .inr (0, 2, []), .inr (0, 3, [])]
def m9_19 : List Shp := [.inl (9, cs9_19), .inr (1, 900, []), .inr (0, 9, []), .inr (0, 9, []), .inr (0, 64, []), .inr (0, 64, []), .inr (0, 3, []), .inr (0, 3, []), .inr (2, 64, []), .inr (2, 64, []), .inr (0, 36, []), .inr (0, 36, []), .inr (0, 4, []), .inr (0, 4, []), .inr (0, 2, []), .inr (0, 2, []), .inr (0, 2, []), .inr (0, 2, []), .inr (0, 3, []), .inr (0, 12, [])]
def m9_20 : List Shp := [.inl (9, cs9_20), .inr (1, 900, []), .inr (0, 9, []), .inr (0, 9, []), .inr (0, 64, []), .inr (0, 64, []), .inr (0, 3, []), .inr (0, 3, []), .inr (2, 64, []), .inr (2, 64, []), .inr (0, 36, []), .inr (0, 36, []), .inr (0, 4, []), .inr (0, 4, []), .inr (0, 2, []), .inr (0, 2, []), .inr (0, 2, []), .inr (0, 2, []), .inr (0, 3, []), .inr (0, 12, []), .inr (0, 288, [])]
def m9_21 : List Shp := [.inl (9, cs9_21), .inr (1, 900, []), .inr (0, 9, []), .inr (0, 9, []), .inr (0, 64, []), .inr (0, 64, []), .inr (0, 3, []), .inr (0, 3, []), .inr (2, 64, []), .inr (2, 64, []), .inr (0, 36, []), .inr (0, 36, []), .inr (0, 4, []), .inr (0, 4, []), .inr (0, 2, []), .inr (0, 2, []), .inr (0, 2, []), .inr (0, 2, []), .inr (0, 3, []), .inr (0, 12, []), .inr (0, 288, []), .inr (0, 289, [])]
def m9_22 : List Shp := [.inl (9, cs9_22), .inr (1, 900, []), .inr (0, 9, []), .inr (0, 9, []), .inr (0, 64, []), .inr (0, 64, []), .inr (0, 3, []), .inr (0, 3, []), .inr (2, 64, []), .inr (2, 64, []), .inr (0, 36, []), .inr (0, 36, []), .inr (0, 4, []), .inr (0, 4, []), .inr (0, 2, []), .inr (0, 2, []), .inr (0, 2, []), .inr (0, 2, []), .inr (0, 3, []), .inr (0, 12, []), .inr (0, 288, []), .inr (0, 289, []), .inr (0, 289, [])]
def m9_23 : List Shp := [.inl (9, cs9_23), .inr (1, 900, []), .inr (0, 9, []), .inr (0, 9, []), .inr (0, 64, []), .inr (0, 64, []), .inr (0, 3, []), .inr (0, 3, []), .inr (2, 64, []), .inr (2, 64, []), .inr (0, 36, []), .inr (0, 36, []), .inr (0, 4, []), .inr (0, 4, []), .inr (0, 2, []), .inr (0, 2, []), .inr (0, 2, []), .inr (0, 2, []), .inr (0, 3, []), .inr (0, 12, []), .inr (0, 288, []), .inr (0, 289, []), .inr (0, 289, []), .inr (0, 867, [])]
def m9_24 : List Shp := [.inl (9, cs9_24), .inr (1, 900, []), .inr (0, 9, []), .inr (0, 9, []), .inr (0, 64, []), .inr (0, 64, []), .inr (0, 3, []), .inr (0, 3, []), .inr (2, 64, []), .inr (2, 64, []), .inr (0, 36, []), .inr (0, 36, []), .inr (0, 4, []), .inr (0, 4, []), .inr (0, 2, []), .inr (0, 2, []), .inr (0, 2, []), .inr (0, 2, []), .inr (0, 3, []), .inr (0, 12, []), .inr (0, 288, []), .inr (0, 289, []), .inr (0, 289, []), .inr (0, 867, []), .inr (2, 3, [])]
def m9_25 : List Shp := [.inl (9, cs9_25), .inr (1, 900, []), .inr (0, 9, []), .inr (0, 9, []), .inr (0, 64, []), .inr (0, 64, []), .inr (0, 3, []), .inr (0, 3, []), .inr (2, 64, []), .inr (2, 64, []), .inr (0, 36, []), .inr (0, 36, []), .inr (0, 4, []), .inr (0, 4, []), .inr (0, 2, []), .inr (0, 2, []), .inr (0, 2, []), .inr (0, 2, []), .inr (0, 3, []), .inr (0, 12, []), .inr (0, 288, []), .inr (0, 289, []), .inr (0, 289, []), .inr (0, 867, []), .inr (2, 3, []), .inr (0, 9, [])]
def m9_26 : List Shp := [.inl (9, cs9_26), .inr (1, 900, []), .inr (0, 9, []), .inr (0, 9, []), .inr (0, 64, []), .inr (0, 64, []), .inr (0, 3, []), .inr (0, 3, []), .inr (2, 64, []), .inr (2, 64, []), .inr (0, 36, []), .inr (0, 36, []), .inr (0, 4, []), .inr (0, 4, []), .inr (0, 2, []), .inr (0, 2, []), .inr (0, 2, []), .inr (0, 2, []), .inr (0, 3, []), .inr (0, 12, []), .inr (0, 288, []), .inr (0, 289, []), .inr (0, 289, []), .inr (0, 867, []), .inr (2, 3, []), .inr (0, 9, []), .inr (0, 16, [])]
def m9_27 : List Shp := [.inl (9, cs9_27), .inr (1, 900, []), .inr (0, 9, []), .inr (0, 9, []), .inr (0, 64, []), .inr (0, 64, []), .inr (0, 3, []), .inr (0, 3, []), .inr (2, 64, []), .inr (2, 64, []), .inr (0, 36, []), .inr (0, 36, []), .inr (0, 4, []), .inr (0, 4, []), .inr (0, 2, []), .inr (0, 2, []), .inr (0, 2, []), .inr (0, 2, []), .inr (0, 3, []), .inr (0, 12, []), .inr (0, 288, []), .inr (0, 289, []), .inr (0, 289, []), .inr (0, 867, []), .inr (2, 3, []), .inr (0, 9, []), .inr (0, 16, []), .inr (0, 16, [])]
def m9_28 : List Shp := [.inl (9, cs9_28), .inr (1, 900, []), .inr (0, 9, []), .inr (0, 9, []), .inr (0, 64, []), .inr (0, 64, []), .inr (0, 3, []), .inr (0, 3, []), .inr (2, 64, []), .inr (2, 64, []), .inr (0, 36, []), .inr (0, 36, []), .inr (0, 4, []), .inr (0, 4, []), .inr (0, 2, []), .inr (0, 2, []), .inr (0, 2, []), .inr (0, 2, []), .inr (0, 3, []), .inr (0, 12, []), .inr (0, 288, []), .inr (0, 289, []), .inr (0, 289, []), .inr (0, 867, []), .inr (2, 3, []), .inr (0, 9, []), .inr (0, 16, []), .inr (0, 16, []), .inr (0, 16, [])]
def m9_29 : List Shp := [.inl (9, cs9_29), .inr (1, 900, []), .inr (0, 9, []), .inr (0, 9, []), .inr (0, 64, []), .inr (0, 64, []), .inr (0, 3, []), .inr (0, 3, []), .inr (2, 64, []), .inr (2, 64, []), .inr (0, 36, []), .inr (0, 36, []), .inr (0, 4, []), .inr (0, 4, []), .inr (0, 2, []), .inr (0, 2, []), .inr (0, 2, []), .inr (0, 2, []), .inr (0, 3, []), .inr (0, 12, []), .inr (0, 288, []), .inr (0, 289, []), .inr (0, 289, []), .inr (0, 867, []), .inr (2, 3, []), .inr (0, 9, []), .inr (0, 16, []), .inr (0, 16, []), .inr (0, 16, []), .inr (0, 16, [])]
def m9_30 : List Shp := [.inl (9, cs9_30), .inr (1, 900, []), .inr (0, 9, []), .inr (0, 9, []), .inr (0, 64, []), .inr (0, 64, []), .inr (0, 3, []), .inr (0, 3, []), .inr (2, 64, []), .inr (2, 64, []), .inr (0, 36, []), .inr (0, 36, []), .inr (0, 4, []), .inr (0, 4, []), .inr (0, 2, []), .inr (0, 2, []), .inr (0, 2, []), .inr (0, 2, []), .inr (0, 3, []), .inr (0, 12, []), .inr (0, 288, []), .inr (0, 289, []), .inr (0, 289, []), .inr (0, 867, []), .inr (2, 3, []), .inr (0, 9, []), .inr (0, 16, []), .inr (0, 16, []), .inr (0, 16, []), .inr (0, 16, []), .inr (0, 20, [])]
def m9_31 : List Shp := [.inl (9, cs9_31), .inr (1, 900, []), .inr (0, 9, []), .inr (0, 9, []), .inr (0, 64, []), .inr (0, 64, []), .inr (0, 3, []), .inr (0, 3, []), .inr (2, 64, []), .inr (2, 64, []), .inr (0, 36, []), .inr (0, 36, []), .inr (0, 4, []), .inr (0, 4, []), .inr (0, 2, []), .inr (0, 2, []), .inr (0, 2, []), .inr (0, 2, []), .inr (0, 3, []), .inr (0, 12, []), .inr (0, 288, []), .inr (0, 289, []), .inr (0, 289, []), .inr (0, 867, []), .inr (2, 3, []), .inr (0, 9, []), .inr (0, 16, []), .inr (0, 16, []), .inr (0, 16, []), .inr (0, 16, []), .inr (0, 20, []), .inr (0, 20, [])]
def m9_32 : List Shp := [.inl (9, cs9_32), .inr (1, 900, []), .inr (0, 9, []), .inr (0, 9, []), .inr (0, 64, []), .inr (0, 64, []), .inr (0, 3, []), .inr (0, 3, []), .inr (2, 64, []), .inr (2, 64, []), .inr (0, 36, []), .inr (0, 36, []), .inr (0, 4, []), .inr (0, 4, []), .inr (0, 2, []), .inr (0, 2, []), .inr (0, 2, []), .inr (0, 2, []), .inr (0, 3, []), .inr (0, 12, []), .inr (0, 288, []), .inr (0, 289, []), .inr (0, 289, []), .inr (0, 867, []), .inr (2, 3, []), .inr (0, 9, []), .inr (0, 16, []), .inr (0, 16, []), .inr (0, 16, []), .inr (0, 16, []), .inr (0, 20, []), .inr (0, 20, []), .inr (0, 20, [])]
def m9_33 : List Shp := [.inl (9, cs9_33), .inr (1, 900, []), .inr (0, 9, []), .inr (0, 9, []), .inr (0, 64, []), .inr (0, 64, []), .inr (0, 3, []), .inr (0, 3, []), .inr (2, 64, []), .inr (2, 64, []), .inr (0, 36, []), .inr (0, 36, []), .inr (0, 4, []), .inr (0, 4, []), .inr (0, 2, []), .inr (0, 2, []), .inr (0, 2, []), .inr (0, 2, []), .inr (0, 3, []), .inr (0, 12, []), .inr (0, 288, []), .inr (0, 289, []), .inr (0, 289, []), .inr (0, 867, []), .inr (2, 3, []), .inr (0, 9, []), .inr (0, 16, []), .inr (0, 16, []), .inr (0, 16, []), .inr (0, 16, []), .inr (0, 20, []), .inr (0, 20, []), .inr (0, 20, []), .inr (0, 496, [])]
theorem mkL_pre {pre m : List Shp} {ci k t N : Nat} {cs : List Nat} (hb : pre.length = 100) : mkL (pre ++ m) 100 ci cs k t N = pre ++ ((m ++ [(.inr (t, N, []) : Shp)]).set 0 (.inl (ci, cs.set k (100 + m.length + 2)))) := by
  unfold mkL
  rw [List.append_assoc, List.set_append_right _ _ (by omega), List.length_append, hb]
theorem MK.mk9 {shl shl2 : List Shp} {h : Hp} {b ci k t N n : Nat} {cs cs2 : List Nat} (m : MK shl h b ci cs) (hn : shl.length = n) (e : mkL shl b ci cs k t N = shl2) (ec : cs.set k (n + 2) = cs2) (ht : t < 3) : MK shl2 (zR h n) b ci cs2 := by
  subst hn e ec
  exact m.mk ht
theorem MK.arr {l : List Shp} {h : Hp} {b ci a i : Nat} {cs : List Nat} {v : Int} {x : Nat × Nat × List Nat} (m : MK l h b ci cs) (ha : l[a]? = some (.inr x)) : MK l (set2 h a i v) b ci cs :=
  m.row (fun p s hp => by
    by_cases y : p = a
    · subst y
      rw [ha] at hp
      cases hp
      exact Or.inl rfl
    · exact Or.inr (set2_ne p y))
theorem row_last {l : List Shp} {n : Nat} {x : Shp} (hn : l.length = n) : (l ++ [x])[n]? = some x := by
  subst hn
  rw [List.getElem?_append_right (Nat.le_refl _), Nat.sub_self]
  rfl
abbrev HOp : Type := Nat × Option (Nat × Int)
def ap1 (o : HOp) (h : Hp) : Hp := match o.2 with
  | none => zR h o.1
  | some x => set2 h o.1 x.1 x.2
def ap : List HOp → Hp → Hp
  | [], h => h
  | o :: r, h => ap r (ap1 o h)
def look : List HOp → Nat → Nat → Option Int → Option Int
  | [], _, _, acc => acc
  | o :: r, p, j, acc => look r p j (if p = o.1 then (match o.2 with | none => some 0 | some x => if j = x.1 then some x.2 else acc) else acc)
theorem ap_look {h0 : Hp} {p j : Nat} : ∀ (ops : List HOp) (h : Hp) (acc : Option Int), h p j = acc.getD (h0 p j) → ap ops h p j = (look ops p j acc).getD (h0 p j)
  | [], _, _, e => e
  | (q, o) :: r, h, acc, e => by
    show ap r (ap1 (q, o) h) p j = (look r p j _).getD (h0 p j)
    refine ap_look r _ _ ?_
    cases o with
    | none =>
      show zR h q p j = _
      by_cases y : p = q
      · subst y; rw [zR_same]; simp
      · rw [zR_ne y, e]; simp [y]
    | some x =>
      show set2 h q x.1 x.2 p j = _
      unfold set2
      by_cases y : p = q
      · by_cases z : j = x.1
        · simp [y, z]
        · subst y; simp [z, e]
      · simp [y, e]
theorem ap_lk {h : Hp} {p j : Nat} (ops : List HOp) : ap ops h p j = (look ops p j none).getD (h p j) := ap_look ops h none rfl
theorem ap_lo {p n : Nat} (hp : p < n) : ∀ (ops : List HOp) (h : Hp), (∀ o ∈ ops, n ≤ o.1) → ap ops h p = h p
  | [], _, _ => rfl
  | (q, o) :: r, h, a => by
    have hq : n ≤ q := a (q, o) List.mem_cons_self
    show ap r (ap1 (q, o) h) p = h p
    rw [ap_lo hp r _ (fun o ho => a o (List.mem_cons_of_mem _ ho))]
    cases o with
    | none => exact zR_ne (by omega)
    | some x => exact set2_ne p (by omega)
def ops9 : List HOp := [(101, none), (100, some (9, -1)), (100, some (10, 5)), (100, some (11, 5)), (102, none), (102, some (0, 6)), (102, some (1, 2)), (102, some (2, 10)), (102, some (3, 4)), (102, some (4, 1)), (102, some (5, 0)), (102, some (6, 4)), (102, some (7, 6)), (102, some (8, 1)), (103, none), (104, none), (105, none), (106, none), (107, none), (108, none), (109, none), (110, none), (111, none), (112, none), (112, some (0, -1)), (112, some (1, -1)), (112, some (2, -1)), (112, some (3, -1)), (113, none), (114, none), (114, some (0, 1)), (114, some (1, 3)), (115, none), (115, some (0, 4)), (115, some (1, 8)), (116, none), (117, none), (100, some (39, 1)), (118, none), (119, none), (120, none), (121, none), (122, none), (123, none), (124, none), (125, none), (126, none), (127, none), (128, none), (129, none), (130, none), (131, none), (132, none), (133, none), (121, some (288, 1))]
theorem ops9_hi : ∀ o ∈ ops9, 100 ≤ o.1 := by decide +kernel
section M9ROWS
variable {E : EnvT} {ad : Nat → Nat} {shl : List Shp} {p : Program} {l : Launch} {e : Env} {Rm : Room} {s : State} {m : MethodId} {args : Array Value} {below : List Frame} {meth : Method} {c : Code} {cells slots : Nat} {Q : State → Prop} {nL : Nat} {cc : ByteArray} {own : String} {ret : Option FieldType}
variable {h : Hp} {pc : Nat} {L : List (Option Value)} {S : List Value}
theorem r_mk0I (X : Cx E p s m args meth c cc own nL ret) (hA : E.1 ≤ s.heap.size) {b ci N w n : Nat} {cs : List Nat} {Z : Int32} (mk : MK shl h b ci cs) (hn : shl.length = n) (hZ : Z.toInt = (N : Int)) (hN : N ≤ 1000) (hce : cells + 1 ≤ Rm.cells) (hsl : slots + N ≤ Rm.slots) (d0 : decode cc pc = .ok (.aload_n 0, 1)) (row : ∀ {H : Heap} {locs : List Loc} {ls : Array Slot} {st : List Value}, W p l e Rm s m args below meth c H locs cells slots Q (F0 m (pc + 1 + w) ls (.int Z :: st)) → W p l e Rm s m args below meth c H locs cells slots Q (F0 m (pc + 1) ls st))
    (d2 : decode cc (pc + 1 + w) = .ok (.newarray .int, 2))
    (kk : ∀ ad', (∀ p, p < n → ad' p = ad p) → Ev E ad' (shl ++ [(.inr (0, N, []) : Shp)]) p l e Rm s m args below meth c (cells + 1) (slots + N) Q nL (zR h n) (pc + 1 + w + 2) [some (.ref (ad' b))] [.ref (ad' n), .ref (ad' b)]) : Ev E ad shl p l e Rm s m args below meth c cells slots Q nL h pc [some (.ref (ad b))] [] := by
  obtain ⟨m1, m2, m3⟩ := mk
  subst hn
  refine r_aload_n X d0 rfl rfl ?_
  intro H locs ls hc hs hl
  refine row (r_newI X (N := N) m3 hZ hN hce hsl hA d2 (fun q => ?_) H locs ls hc hs hl)
  have e1 : upA ad shl.length q b = ad b := upA_ne (by omega)
  rw [← e1]
  have e2 : (Value.ref q) = .ref (upA ad shl.length q shl.length) := by rw [upA_same]
  rw [e2]
  exact kk (upA ad shl.length q) (fun p hp => upA_ne (by omega))
theorem r_mk0B (X : Cx E p s m args meth c cc own nL ret) (hA : E.1 ≤ s.heap.size) {b ci N w n : Nat} {cs : List Nat} {Z : Int32} (mk : MK shl h b ci cs) (hn : shl.length = n) (hZ : Z.toInt = (N : Int)) (hN : N ≤ 1000) (hce : cells + 1 ≤ Rm.cells) (hsl : slots + N ≤ Rm.slots) (d0 : decode cc pc = .ok (.aload_n 0, 1)) (row : ∀ {H : Heap} {locs : List Loc} {ls : Array Slot} {st : List Value}, W p l e Rm s m args below meth c H locs cells slots Q (F0 m (pc + 1 + w) ls (.int Z :: st)) → W p l e Rm s m args below meth c H locs cells slots Q (F0 m (pc + 1) ls st))
    (d2 : decode cc (pc + 1 + w) = .ok (.newarray .byte, 2))
    (kk : ∀ ad', (∀ p, p < n → ad' p = ad p) → Ev E ad' (shl ++ [(.inr (1, N, []) : Shp)]) p l e Rm s m args below meth c (cells + 1) (slots + N) Q nL (zR h n) (pc + 1 + w + 2) [some (.ref (ad' b))] [.ref (ad' n), .ref (ad' b)]) : Ev E ad shl p l e Rm s m args below meth c cells slots Q nL h pc [some (.ref (ad b))] [] := by
  obtain ⟨m1, m2, m3⟩ := mk
  subst hn
  refine r_aload_n X d0 rfl rfl ?_
  intro H locs ls hc hs hl
  refine row (r_newB X (N := N) m3 hZ hN hce hsl hA d2 (fun q => ?_) H locs ls hc hs hl)
  have e1 : upA ad shl.length q b = ad b := upA_ne (by omega)
  rw [← e1]
  have e2 : (Value.ref q) = .ref (upA ad shl.length q shl.length) := by rw [upA_same]
  rw [e2]
  exact kk (upA ad shl.length q) (fun p hp => upA_ne (by omega))
theorem r_mk0Z (X : Cx E p s m args meth c cc own nL ret) (hA : E.1 ≤ s.heap.size) {b ci N w n : Nat} {cs : List Nat} {Z : Int32} (mk : MK shl h b ci cs) (hn : shl.length = n) (hZ : Z.toInt = (N : Int)) (hN : N ≤ 1000) (hce : cells + 1 ≤ Rm.cells) (hsl : slots + N ≤ Rm.slots) (d0 : decode cc pc = .ok (.aload_n 0, 1)) (row : ∀ {H : Heap} {locs : List Loc} {ls : Array Slot} {st : List Value}, W p l e Rm s m args below meth c H locs cells slots Q (F0 m (pc + 1 + w) ls (.int Z :: st)) → W p l e Rm s m args below meth c H locs cells slots Q (F0 m (pc + 1) ls st))
    (d2 : decode cc (pc + 1 + w) = .ok (.newarray .boolean, 2))
    (kk : ∀ ad', (∀ p, p < n → ad' p = ad p) → Ev E ad' (shl ++ [(.inr (2, N, []) : Shp)]) p l e Rm s m args below meth c (cells + 1) (slots + N) Q nL (zR h n) (pc + 1 + w + 2) [some (.ref (ad' b))] [.ref (ad' n), .ref (ad' b)]) : Ev E ad shl p l e Rm s m args below meth c cells slots Q nL h pc [some (.ref (ad b))] [] := by
  obtain ⟨m1, m2, m3⟩ := mk
  subst hn
  refine r_aload_n X d0 rfl rfl ?_
  intro H locs ls hc hs hl
  refine row (r_newZ X (N := N) m3 hZ hN hce hsl hA d2 (fun q => ?_) H locs ls hc hs hl)
  have e1 : upA ad shl.length q b = ad b := upA_ne (by omega)
  rw [← e1]
  have e2 : (Value.ref q) = .ref (upA ad shl.length q shl.length) := by rw [upA_same]
  rw [e2]
  exact kk (upA ad shl.length q) (fun p hp => upA_ne (by omega))
theorem r_mkF (X : Cx E p s m args meth c cc own nL ret) (hinit : meth.name = "<init>") {b ci k t N index NF n : Nat} {cs : List Nat} {T : u_T} {ty : FieldType} (hb : shl[b]? = some (.inl (ci, cs))) (hlt : b < shl.length) (hn : shl.length = n) (hcl : vwCl[ci]? = some (own, T, NF)) (hin : ∀ w ∈ u_ws own T NF, w ∈ gw) (hk : k < NF) (hkc : k < cs.length) (hfin : (T k).2.2.2 = true) (hdc : (T k).1 = own) (hty : parseFieldDescriptor (T k).2.2.1 = some ty) (hnr : narrow ty (.ref (ad n)) = .ref (ad n)) (hft : fits ty (.ref (ad n)) = true) (hlink : Cond.fieldLink own index (T k).1 (T k).2.1 (T k).2.2.1 ∈ gw) (hd : decode cc pc = .ok (.putfield index, 3))
    (kk : Ev E ad (mkL shl b ci cs k t N) p l e Rm s m args below meth c cells slots Q nL h (pc + 3) L S) : Ev E ad (shl ++ [(.inr (t, N, []) : Shp)]) p l e Rm s m args below meth c cells slots Q nL h pc L (.ref (ad n) :: .ref (ad b) :: S) := by
  subst hn
  have hb' : (shl ++ [(.inr (t, N, []) : Shp)])[b]? = some (.inl (ci, cs)) := by rw [List.getElem?_append_left hlt]; exact hb
  exact r_putFin X hinit hb' hcl hin hk hkc hfin hdc hty hnr hft hlink hd kk
theorem r_ini (X : Cx E p s m args meth c cc own nL ret) {a n i w1 w2 : Nat} {v : Int} {I V : Int32} (ha : shl[a]? = some (.inr (0, n, []))) (hI : I.toInt = (i : Int)) (hV : V.toInt = v) (hi : i < n) (d0 : decode cc pc = .ok (.dup, 1))
    (row1 : ∀ {H : Heap} {locs : List Loc} {ls : Array Slot} {st : List Value}, W p l e Rm s m args below meth c H locs cells slots Q (F0 m (pc + 1 + w1) ls (.int I :: st)) → W p l e Rm s m args below meth c H locs cells slots Q (F0 m (pc + 1) ls st))
    (row2 : ∀ {H : Heap} {locs : List Loc} {ls : Array Slot} {st : List Value}, W p l e Rm s m args below meth c H locs cells slots Q (F0 m (pc + 1 + w1 + w2) ls (.int V :: st)) → W p l e Rm s m args below meth c H locs cells slots Q (F0 m (pc + 1 + w1) ls st))
    (d3 : decode cc (pc + 1 + w1 + w2) = .ok (.iastore, 1)) (kk : Ev E ad shl p l e Rm s m args below meth c cells slots Q nL (set2 h a i v) (pc + 1 + w1 + w2 + 1) L (.ref (ad a) :: S)) : Ev E ad shl p l e Rm s m args below meth c cells slots Q nL h pc L (.ref (ad a) :: S) := by
  refine r_dup X d0 rfl ?_
  intro H locs ls hc hs hl
  refine row1 (row2 (r_iast (K := fun g => some g) (res := set2 h a i v) X ha d3 ?_ (fun g hG => ?_) H locs ls hc hs hl))
  · unfold wrI
    rw [hI, hV, if_pos ⟨by omega, by omega⟩]
    rfl
  · obtain rfl : g = set2 h a i v := Option.some.inj hG
    exact kk
end M9ROWS
