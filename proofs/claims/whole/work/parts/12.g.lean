/-! THE PURE FUNCTIONS of all methods, by program out of the bytecode (constructors and the law apart) -/
def sLen (w : List Int) : Option Int := some (w.length : Int)
def sAt (w : List Int) (i : Int) : Option Int := if 0 ≤ i ∧ i < (w.length : Int) then some (w.getD i.toNat 0) else none
def g_J7_fill_53178 (q n : Nat) (x : Int) (h : Hp) : Option Hp := some (fun p j => if p = q ∧ j < n then x else h p j)
def g_X8_planOrNull (x1 : Int) (h : Hp) : Option Int := if x1 < 0 then some (-1) else gF h 0 6 fun z => if z ≤ x1 then some (-1) else rdQ 3 61 5 x1 fun q => some (q : Int)
def g_X0_clear (b0 : Nat) (h : Hp) : Option (Hp) :=
  cI (0) fun z1 =>
  cI (0) fun z2 =>
  cI (11) fun z3 =>
  cpT T_X0_UNTOLD z1 h (b0 + 1) 11 z2 z3 fun h4 =>
  cI (0) fun z5 =>
  cV (g_J7_fill_53178 (b0 + 2) 64 z5 h4) fun h6 =>
  cI (0) fun z7 =>
  cV (g_J7_fill_53178 (b0 + 3) 64 z7 h6) fun h8 =>
  cI (0) fun z9 =>
  pF h8 b0 5 z9 fun h10 =>
  cI (0) fun z11 =>
  pF h10 b0 6 z11 fun h12 =>
  cI (0) fun z13 =>
  pF h12 b0 7 z13 fun h14 =>
  cI (0) fun z15 =>
  pZ h14 b0 8 z15 fun h16 =>
  some h16
def g_X8_strengthOf (x1 : Int) (x2 : Int) (x3 : Int) (x4 : Int) : Option (Int) :=
  joinF (fun (a1 : Unit) =>
    cI (0) fun z3 =>
    some z3) fun j2 =>
  if x1 ≤ 0 then
    j2 ()
  else
    cI (16) fun z4 =>
    if x1 < z4 then
      cI (0) fun z5 =>
      subI x1 x2 fun z6 =>
      absI z6 fun z7 =>
      mulI x4 z7 fun z8 =>
      subI x3 z8 fun z9 =>
      maxI z5 z9 fun z10 =>
      some z10
    else
      j2 ()
def g_X0_weigh_l3 (b0 : Nat) (l3 : Int × Hp → Option (Hp)) (q2 : Int × Hp) : Option (Hp) :=
      cI (16) fun z6 =>
      if z6 < q2.1 then
        some q2.2
      else
        cI (8) fun z7 =>
        rdI q2.2 (b0 + 1) 11 z7 fun z8 =>
        cI (9) fun z9 =>
        rdI q2.2 (b0 + 1) 11 z9 fun z10 =>
        cI (10) fun z11 =>
        rdI q2.2 (b0 + 1) 11 z11 fun z12 =>
        cP (g_X8_strengthOf q2.1 z8 z10 z12) fun z13 =>
        wrI q2.2 (b0 + 5) 17 q2.1 z13 fun h14 =>
        addI q2.1 (1) fun z15 =>
        l3 (z15, h14)
def g_X0_weigh (b0 : Nat) (h : Hp) : Option (Hp) :=
  cI (0) fun z1 =>
  loopF (g_X0_weigh_l3 b0) FU (z1, h)
def g_X2_clear (b0 : Nat) (h : Hp) : Option (Hp) :=
  cI (0) fun z1 =>
  cI (0) fun z2 =>
  cI (9) fun z3 =>
  cpT T_X2_UNTOLD z1 h (b0 + 1) 9 z2 z3 fun h4 =>
  cI (0) fun z5 =>
  pF h4 b0 4 z5 fun h6 =>
  cI (0) fun z7 =>
  pF h6 b0 5 z7 fun h8 =>
  cI (0) fun z9 =>
  pF h8 b0 6 z9 fun h10 =>
  some h10
def g_X0_firstHeight (b0 : Nat) (x1 : Int) (h : Hp) : Option (Int) :=
  joinF (fun (a1 : Int) =>
    some a1) fun j2 =>
  joinF (fun (a4 : Unit) =>
    cI (0) fun z6 =>
    j2 z6) fun j5 =>
  if x1 < 0 then
    j5 ()
  else
    cI (64) fun z7 =>
    if z7 ≤ x1 then
      j5 ()
    else
      cI (2) fun z8 =>
      rdI h (b0 + 1) 11 z8 fun z9 =>
      rdI h (b0 + 2) 64 x1 fun z10 =>
      addI z9 z10 fun z11 =>
      j2 z11
def g_X3_hold (b0 : Nat) (x1 : Int) (h : Hp) : Option (Hp) :=
  pF h b0 7 x1 fun h1 =>
  cI (0) fun z2 =>
  cV (g_J7_fill_53178 (b0 + 6) 4 z2 h1) fun h3 =>
  cI (0) fun z4 =>
  cV (g_J7_fill_53178 (b0 + 7) 4 z4 h3) fun h5 =>
  some h5
def g_X3_begin_l29 (b0 : Nat) (b1 : Nat) (j3 : Hp → Option (Hp)) (l29 : Int × Hp → Option (Hp)) (q28 : Int × Hp) : Option (Hp) :=
      cI (64) fun z32 =>
      if z32 ≤ q28.1 then
        j3 q28.2
      else
        cP (g_X0_firstHeight b1 q28.1 q28.2) fun z33 =>
        wrI q28.2 (b0 + 1) 64 q28.1 z33 fun h34 =>
        rdI h34 (b1 + 3) 64 q28.1 fun z35 =>
        wrI h34 (b0 + 4) 64 q28.1 z35 fun h36 =>
        addI q28.1 (1) fun z37 =>
        l29 (z37, h36)
def g_X3_begin (b0 : Nat) (b1 : Nat) (h : Hp) : Option (Hp) :=
  cI (0) fun z1 =>
  joinF (fun (a2 : Hp) =>
    cI (5) fun z5 =>
    rdI a2 (b1 + 1) 11 z5 fun z6 =>
    cV (g_J7_fill_53178 (b0 + 2) 64 z6 a2) fun h7 =>
    cI (0) fun z8 =>
    cV (g_J7_fill_53178 (b0 + 3) 64 z8 h7) fun h9 =>
    cI (-1) fun z10 =>
    cV (g_J7_fill_53178 (b0 + 5) 3 z10 h9) fun h11 =>
    cI (-1) fun z12 =>
    cV (g_X3_hold b0 z12 h11) fun h13 =>
    cI (0) fun z14 =>
    pF h13 b0 9 z14 fun h15 =>
    cI (0) fun z16 =>
    pF h15 b0 10 z16 fun h17 =>
    cI (0) fun z18 =>
    pF h17 b0 11 z18 fun h19 =>
    cI (0) fun z20 =>
    pF h19 b0 12 z20 fun h21 =>
    cI (0) fun z22 =>
    pF h21 b0 13 z22 fun h23 =>
    cI (0) fun z24 =>
    pF h23 b0 14 z24 fun h25 =>
    cI (0) fun z26 =>
    pZ h25 b0 15 z26 fun h27 =>
    some h27) fun j3 =>
  loopF (g_X3_begin_l29 b0 b1 j3) FU (z1, h)
def g_X5_append_l6 (b0 : Nat) (j3 : Hp → Option (Hp)) (x1 : Int) (l6 : Int × Hp → Option (Hp)) (q5 : Int × Hp) : Option (Hp) :=
      if q5.1 < 0 then
        j3 q5.2
      else
        gF q5.2 b0 1 fun z9 =>
        cI (900) fun z10 =>
        if z10 ≤ z9 then
          j3 q5.2
        else
          gF q5.2 b0 1 fun z11 =>
          shrI x1 q5.1 fun z12 =>
          cI (255) fun z13 =>
          andI z12 z13 fun z14 =>
          wrI q5.2 (b0 + 1) 900 z11 z14 fun h15 =>
          gF h15 b0 1 fun z16 =>
          cI (1) fun z17 =>
          addI z16 z17 fun z18 =>
          pF h15 b0 1 z18 fun h19 =>
          addI q5.1 (-8) fun z20 =>
          l6 (z20, h19)
def g_X5_append (b0 : Nat) (x1 : Int) (h : Hp) : Option (Hp) :=
  cI (24) fun z1 =>
  joinF (fun (a2 : Hp) =>
    some a2) fun j3 =>
  loopF (g_X5_append_l6 b0 j3 x1) FU (z1, h)
def g_X8_feed (x1 : Int) (x2 : Int) (x3 : Int) (x4 : Int) (x5 : Int) (h : Hp) : Option (Int × Hp) :=
  gF h 1 1 fun z1 =>
  cI (20) fun z2 =>
  addI z1 z2 fun z3 =>
  cI (900) fun z4 =>
  if z3 ≤ z4 then
    cV (g_X5_append 1 x1 h) fun h5 =>
    cV (g_X5_append 1 x2 h5) fun h6 =>
    cV (g_X5_append 1 x3 h6) fun h7 =>
    cV (g_X5_append 1 x4 h7) fun h8 =>
    cV (g_X5_append 1 x5 h8) fun h9 =>
    gF h9 1 1 fun z10 =>
    some (z10, h9)
  else
    cI (-3) fun z11 =>
    some (z11, h)
def g_X8_end (x1 : Int) (h : Hp) : Option (Int × Hp) :=
  joinF (fun (a1 : Unit) =>
    cI (-1) fun z3 =>
    some (z3, h)) fun j2 =>
  if x1 < 0 then
    j2 ()
  else
    gF h 1 1 fun z4 =>
    if x1 ≤ z4 then
      pF h 1 1 x1 fun h5 =>
      some (x1, h5)
    else
      j2 ()
def g_X5_startReading (b0 : Nat) (h : Hp) : Option (Hp) :=
  cI (0) fun z1 =>
  pF h b0 2 z1 fun h2 =>
  cI (0) fun z3 =>
  pF h2 b0 6 z3 fun h4 =>
  cI (-1) fun z5 =>
  pF h4 b0 7 z5 fun h6 =>
  some h6
def g_X5_isFaulty (b0 : Nat) (h : Hp) : Option (Int) :=
  gF h b0 6 fun z1 =>
  joinF (fun (a2 : Int) =>
    retZ a2) fun j3 =>
  if z1 = 0 then
    cI (0) fun z5 =>
    j3 z5
  else
    cI (1) fun z6 =>
    j3 z6
def g_X5_isBlank (x1 : Int) : Option (Int) :=
  cI (32) fun z1 =>
  joinF (fun (a2 : Int) =>
    retZ a2) fun j3 =>
  joinF (fun (a5 : Unit) =>
    cI (1) fun z7 =>
    j3 z7) fun j6 =>
  if x1 = z1 then
    j6 ()
  else
    cI (10) fun z8 =>
    if x1 = z8 then
      j6 ()
    else
      cI (0) fun z9 =>
      j3 z9
def g_X5_kindOf (x1 : Int) : Option (Int) :=
  cI (97) fun z1 =>
  joinF (fun (a2 : Unit) =>
    cI (48) fun z4 =>
    joinF (fun (a5 : Unit) =>
      cI (59) fun z7 =>
      joinF (fun (a8 : Int) =>
        some a8) fun j9 =>
      if x1 = z7 then
        cI (3) fun z12 =>
        j9 z12
      else
        cI (0) fun z11 =>
        j9 z11) fun j6 =>
    if x1 < z4 then
      j6 ()
    else
      cI (57) fun z13 =>
      if z13 < x1 then
        j6 ()
      else
        cI (2) fun z14 =>
        some z14) fun j3 =>
  if x1 < z1 then
    j3 ()
  else
    cI (122) fun z15 =>
    if z15 < x1 then
      j3 ()
    else
      cI (1) fun z16 =>
      some z16
def g_X5_advance_l37 (b0 : Nat) (j19 : Hp → Option (Hp)) (l37 : Hp → Option (Hp)) (q36 : Hp) : Option (Hp) :=
            gF q36 b0 2 fun z39 =>
            gF q36 b0 1 fun z40 =>
            if z40 ≤ z39 then
              j19 q36
            else
              gF q36 b0 2 fun z41 =>
              rdI q36 (b0 + 1) 900 z41 fun z42 =>
              cP (g_X5_kindOf z42) fun z43 =>
              gF q36 b0 3 fun z44 =>
              if z43 = z44 then
                gF q36 b0 5 fun z45 =>
                cI (10) fun z46 =>
                mulI z45 z46 fun z47 =>
                gF q36 b0 2 fun z48 =>
                rdI q36 (b0 + 1) 900 z48 fun z49 =>
                addI z47 z49 fun z50 =>
                cI (48) fun z51 =>
                subI z50 z51 fun z52 =>
                pF q36 b0 5 z52 fun h53 =>
                gF h53 b0 2 fun z54 =>
                cI (1) fun z55 =>
                addI z54 z55 fun z56 =>
                pF h53 b0 2 z56 fun h57 =>
                l37 h57
              else
                j19 q36
def g_X5_advance_l67 (b0 : Nat) (j2 : Hp → Option (Hp)) (l67 : Hp → Option (Hp)) (q66 : Hp) : Option (Hp) :=
      gF q66 b0 2 fun z69 =>
      gF q66 b0 1 fun z70 =>
      if z70 ≤ z69 then
        j2 q66
      else
        gF q66 b0 2 fun z71 =>
        rdI q66 (b0 + 1) 900 z71 fun z72 =>
        cP (g_X5_isBlank z72) fun z73 =>
        if z73 = 0 then
          j2 q66
        else
          gF q66 b0 2 fun z74 =>
          cI (1) fun z75 =>
          addI z74 z75 fun z76 =>
          pF q66 b0 2 z76 fun h77 =>
          l67 h77
def g_X5_advance (b0 : Nat) (h : Hp) : Option (Hp) :=
  joinF (fun (a1 : Hp) =>
    gF a1 b0 2 fun z4 =>
    pF a1 b0 4 z4 fun h5 =>
    cI (0) fun z6 =>
    pF h5 b0 5 z6 fun h7 =>
    gF h7 b0 2 fun z8 =>
    gF h7 b0 1 fun z9 =>
    if z8 < z9 then
      gF h7 b0 2 fun z10 =>
      rdI h7 (b0 + 1) 900 z10 fun z11 =>
      cP (g_X5_kindOf z11) fun z12 =>
      pF h7 b0 3 z12 fun h13 =>
      gF h13 b0 3 fun z14 =>
      cI (1) fun z15 =>
      joinF (fun (a16 : Unit) =>
        joinF (fun (a18 : Hp) =>
          gF a18 b0 2 fun z21 =>
          gF a18 b0 4 fun z22 =>
          subI z21 z22 fun z23 =>
          gF a18 b0 3 fun z24 =>
          cI (1) fun z25 =>
          joinF (fun (a26 : Int) =>
            joinF (fun (a29 : Hp) =>
              some a29) fun j30 =>
            if z23 ≤ a26 then
              j30 a18
            else
              cI (0) fun z32 =>
              pF a18 b0 3 z32 fun h33 =>
              j30 h33) fun j27 =>
          if z24 = z25 then
            cI (8) fun z35 =>
            j27 z35
          else
            cI (3) fun z34 =>
            j27 z34) fun j19 =>
        loopF (g_X5_advance_l37 b0 j19) FU h13) fun j17 =>
      if z14 = z15 then
        j17 ()
      else
        gF h13 b0 3 fun z58 =>
        cI (2) fun z59 =>
        if z58 = z59 then
          j17 ()
        else
          gF h13 b0 2 fun z60 =>
          cI (1) fun z61 =>
          addI z60 z61 fun z62 =>
          pF h13 b0 2 z62 fun h63 =>
          some h63
    else
      cI (4) fun z64 =>
      pF h7 b0 3 z64 fun h65 =>
      some h65) fun j2 =>
  loopF (g_X5_advance_l67 b0 j2) FU h
def g_X5_hasClause (b0 : Nat) (h : Hp) : Option (Int × Hp) :=
  cP (g_X5_isFaulty b0 h) fun z1 =>
  if z1 = 0 then
    cV (g_X5_advance b0 h) fun h2 =>
    gF h2 b0 3 fun z3 =>
    cI (4) fun z4 =>
    joinF (fun (a5 : Int) =>
      retZW a5 h2) fun j6 =>
    if z3 = z4 then
      cI (0) fun z8 =>
      j6 z8
    else
      cI (1) fun z9 =>
      j6 z9
  else
    cI (0) fun z10 =>
    retZW z10 h
def g_X5_isWord_l12 (b0 : Nat) (h : Hp) (w1 : List Int) (l12 : Int → Option (Int)) (q11 : Int) : Option (Int) :=
          cP (sLen w1) fun z14 =>
          if z14 ≤ q11 then
            cI (1) fun z15 =>
            retZ z15
          else
            gF h b0 4 fun z16 =>
            addI z16 q11 fun z17 =>
            rdI h (b0 + 1) 900 z17 fun z18 =>
            cP (sAt w1 q11) fun z19 =>
            if z18 = z19 then
              addI q11 (1) fun z20 =>
              l12 z20
            else
              cI (0) fun z21 =>
              retZ z21
def g_X5_isWord (b0 : Nat) (w1 : List Int) (h : Hp) : Option (Int) :=
  gF h b0 3 fun z1 =>
  cI (1) fun z2 =>
  joinF (fun (a3 : Unit) =>
    cI (0) fun z5 =>
    retZ z5) fun j4 =>
  if z1 = z2 then
    gF h b0 2 fun z6 =>
    gF h b0 4 fun z7 =>
    subI z6 z7 fun z8 =>
    cP (sLen w1) fun z9 =>
    if z8 = z9 then
      cI (0) fun z10 =>
      loopF (g_X5_isWord_l12 b0 h w1) FU z10
    else
      j4 ()
  else
    j4 ()
def g_X0_firstNumberOf (b1 : Nat) (h : Hp) : Option (Int) :=
  cP (g_X5_isWord b1 (strC 0) h) fun z1 =>
  if z1 = 0 then
    cP (g_X5_isWord b1 (strC 1) h) fun z2 =>
    if z2 = 0 then
      cP (g_X5_isWord b1 (strC 2) h) fun z3 =>
      if z3 = 0 then
        cP (g_X5_isWord b1 (strC 3) h) fun z4 =>
        if z4 = 0 then
          cP (g_X5_isWord b1 (strC 4) h) fun z5 =>
          if z5 = 0 then
            cP (g_X5_isWord b1 (strC 5) h) fun z6 =>
            if z6 = 0 then
              cP (g_X5_isWord b1 (strC 6) h) fun z7 =>
              if z7 = 0 then
                cP (g_X5_isWord b1 (strC 7) h) fun z8 =>
                joinF (fun (a9 : Int) =>
                  some a9) fun j10 =>
                if z8 = 0 then
                  cI (-1) fun z12 =>
                  j10 z12
                else
                  cI (8) fun z13 =>
                  j10 z13
              else
                cI (7) fun z14 =>
                some z14
            else
              cI (6) fun z15 =>
              some z15
          else
            cI (5) fun z16 =>
            some z16
        else
          cI (4) fun z17 =>
          some z17
      else
        cI (3) fun z18 =>
        some z18
    else
      cI (2) fun z19 =>
      some z19
  else
    cI (0) fun z20 =>
    some z20
def g_X5_refuse (b0 : Nat) (x1 : Int) (h : Hp) : Option (Hp) :=
  gF h b0 6 fun z1 =>
  joinF (fun (a2 : Hp) =>
    some a2) fun j3 =>
  if z1 = 0 then
    pF h b0 6 x1 fun h5 =>
    gF h5 b0 4 fun z6 =>
    pF h5 b0 7 z6 fun h7 =>
    j3 h7
  else
    j3 h
def g_X0_howMany (x1 : Int) : Option (Int) :=
  cI (8) fun z1 =>
  if x1 = z1 then
    cI (3) fun z7 =>
    some z7
  else
    joinF (fun (a2 : Int) =>
      some a2) fun j3 =>
    if x1 = 0 then
      cI (2) fun z6 =>
      j3 z6
    else
      cI (1) fun z5 =>
      j3 z5
def g_X5_need (b0 : Nat) (x1 : Int) (x2 : Int) (h : Hp) : Option (Int × Hp) :=
  cP (g_X5_isFaulty b0 h) fun z1 =>
  if z1 = 0 then
    cV (g_X5_advance b0 h) fun h2 =>
    gF h2 b0 3 fun z3 =>
    cI (2) fun z4 =>
    if z3 = z4 then
      gF h2 b0 5 fun z5 =>
      joinF (fun (a6 : Unit) =>
        cI (2) fun z8 =>
        cV (g_X5_refuse b0 z8 h2) fun h9 =>
        some (x1, h9)) fun j7 =>
      if z5 < x1 then
        j7 ()
      else
        gF h2 b0 5 fun z10 =>
        if z10 ≤ x2 then
          gF h2 b0 5 fun z11 =>
          some (z11, h2)
        else
          j7 ()
    else
      cI (1) fun z12 =>
      cV (g_X5_refuse b0 z12 h2) fun h13 =>
      some (x1, h13)
  else
    some (x1, h)
def g_X0_readNumbers_l18 (b0 : Nat) (b1 : Nat) (z16 : Int) (l18 : Int × Hp → Option (Hp)) (q17 : Int × Hp) : Option (Hp) :=
        if z16 ≤ q17.1 then
          some q17.2
        else
          rdT T_X0_LEAST q17.1 fun z21 =>
          rdT T_X0_MOST q17.1 fun z22 =>
          cW (g_X5_need b1 z21 z22 q17.2) fun z23 h24 =>
          wrI h24 (b0 + 1) 11 q17.1 z23 fun h25 =>
          addI q17.1 (1) fun z26 =>
          l18 (z26, h25)
def g_X0_readNumbers (b0 : Nat) (b1 : Nat) (x2 : Int) (h : Hp) : Option (Hp) :=
  gF h b0 7 fun z1 =>
  shrI z1 x2 fun z2 =>
  cI (1) fun z3 =>
  andI z2 z3 fun z4 =>
  joinF (fun (a5 : Hp) =>
    gF a5 b0 7 fun z8 =>
    cI (1) fun z9 =>
    shlI z9 x2 fun z10 =>
    orI z8 z10 fun z11 =>
    pF a5 b0 7 z11 fun h12 =>
    cI (11) fun z13 =>
    cP (g_X0_howMany x2) fun z14 =>
    addI x2 z14 fun z15 =>
    minI z13 z15 fun z16 =>
    loopF (g_X0_readNumbers_l18 b0 b1 z16) FU (x2, h12)) fun j6 =>
  if z4 = 0 then
    if x2 = 0 then
      gF h b0 8 fun z27 =>
      if z27 = 0 then
        j6 h
      else
        cI (5) fun z28 =>
        cV (g_X5_refuse b1 z28 h) fun h29 =>
        j6 h29
    else
      j6 h
  else
    cI (3) fun z30 =>
    cV (g_X5_refuse b1 z30 h) fun h31 =>
    j6 h31
def g_X0_columns (b0 : Nat) (h : Hp) : Option (Int) :=
  cI (0) fun z1 =>
  rdI h (b0 + 1) 11 z1 fun z2 =>
  some z2
def g_X0_rows (b0 : Nat) (h : Hp) : Option (Int) :=
  cI (1) fun z1 =>
  rdI h (b0 + 1) 11 z1 fun z2 =>
  some z2
def g_X0_needCell (b0 : Nat) (b1 : Nat) (h : Hp) : Option (Int × Hp) :=
  cI (0) fun z1 =>
  cP (g_X0_columns b0 h) fun z2 =>
  cI (1) fun z3 =>
  subI z2 z3 fun z4 =>
  cW (g_X5_need b1 z1 z4 h) fun z5 h6 =>
  cI (0) fun z7 =>
  cP (g_X0_rows b0 h6) fun z8 =>
  cI (1) fun z9 =>
  subI z8 z9 fun z10 =>
  cW (g_X5_need b1 z7 z10 h6) fun z11 h12 =>
  cP (g_X0_columns b0 h12) fun z13 =>
  mulI z11 z13 fun z14 =>
  addI z14 z5 fun z15 =>
  some (z15, h12)
def g_X0_readHeap (b0 : Nat) (b1 : Nat) (h : Hp) : Option (Hp) :=
  cI (1) fun z1 =>
  cI (40) fun z2 =>
  cW (g_X5_need b1 z1 z2 h) fun z3 h4 =>
  cW (g_X0_needCell b0 b1 h4) fun z5 h6 =>
  cP (g_X5_isFaulty b1 h6) fun z7 =>
  joinF (fun (a8 : Unit) =>
    some h6) fun j9 =>
  if z7 = 0 then
    cI (64) fun z10 =>
    if z5 < z10 then
      rdI h6 (b0 + 2) 64 z5 fun z11 =>
      addI z11 z3 fun z12 =>
      cI (59) fun z13 =>
      joinF (fun (a14 : Hp) =>
        rdI a14 (b0 + 2) 64 z5 fun z17 =>
        addI z17 z3 fun z18 =>
        wrI a14 (b0 + 2) 64 z5 z18 fun h19 =>
        cI (1) fun z20 =>
        pZ h19 b0 8 z20 fun h21 =>
        some h21) fun j15 =>
      if z12 ≤ z13 then
        j15 h6
      else
        cI (2) fun z22 =>
        cV (g_X5_refuse b1 z22 h6) fun h23 =>
        j15 h23
    else
      j9 ()
  else
    j9 ()
def g_X0_readStone (b0 : Nat) (b1 : Nat) (h : Hp) : Option (Hp) :=
  cW (g_X0_needCell b0 b1 h) fun z1 h2 =>
  cP (g_X5_isFaulty b1 h2) fun z3 =>
  joinF (fun (a4 : Unit) =>
    some h2) fun j5 =>
  if z3 = 0 then
    cI (64) fun z6 =>
    if z1 < z6 then
      rdI h2 (b0 + 3) 64 z1 fun z7 =>
      joinF (fun (a8 : Hp) =>
        cI (1) fun z11 =>
        wrI a8 (b0 + 3) 64 z1 z11 fun h12 =>
        cI (1) fun z13 =>
        pZ h12 b0 8 z13 fun h14 =>
        some h14) fun j9 =>
      if z7 = 0 then
        j9 h2
      else
        cI (3) fun z15 =>
        cV (g_X5_refuse b1 z15 h2) fun h16 =>
        j9 h16
    else
      j5 ()
  else
    j5 ()
def g_X0_readFlag_l19 (b0 : Nat) (b1 : Nat) (j8 : Hp → Option (Hp)) (z3 : Int) (l19 : Int × Hp → Option (Hp)) (q18 : Int × Hp) : Option (Hp) :=
          gF q18.2 b0 5 fun z22 =>
          if z22 ≤ q18.1 then
            j8 q18.2
          else
            rdI q18.2 (b0 + 4) 3 q18.1 fun z23 =>
            joinF (fun (a24 : Hp) =>
              addI q18.1 (1) fun z27 =>
              l19 (z27, a24)) fun j25 =>
            if z23 = z3 then
              cI (3) fun z28 =>
              cV (g_X5_refuse b1 z28 q18.2) fun h29 =>
              j25 h29
            else
              j25 q18.2
def g_X0_readFlag (b0 : Nat) (b1 : Nat) (h : Hp) : Option (Hp) :=
  gF h b0 5 fun z1 =>
  cI (3) fun z2 =>
  if z1 < z2 then
    cW (g_X0_needCell b0 b1 h) fun z3 h4 =>
    cP (g_X5_isFaulty b1 h4) fun z5 =>
    if z5 = 0 then
      cI (0) fun z6 =>
      joinF (fun (a7 : Hp) =>
        gF a7 b0 5 fun z10 =>
        wrI a7 (b0 + 4) 3 z10 z3 fun h11 =>
        gF h11 b0 5 fun z12 =>
        cI (1) fun z13 =>
        addI z12 z13 fun z14 =>
        pF h11 b0 5 z14 fun h15 =>
        cI (1) fun z16 =>
        pZ h15 b0 8 z16 fun h17 =>
        some h17) fun j8 =>
      loopF (g_X0_readFlag_l19 b0 b1 j8 z3) FU (z6, h4)
    else
      some h4
  else
    cI (4) fun z30 =>
    cV (g_X5_refuse b1 z30 h) fun h31 =>
    some h31
def g_X0_readClause (b0 : Nat) (b1 : Nat) (h : Hp) : Option (Hp) :=
  cP (g_X0_firstNumberOf b1 h) fun z1 =>
  cI (-1) fun z2 =>
  joinF (fun (a3 : Hp) =>
    some a3) fun j4 =>
  if z1 = z2 then
    cP (g_X5_isWord b1 (strC 8) h) fun z6 =>
    if z6 = 0 then
      cP (g_X5_isWord b1 (strC 9) h) fun z7 =>
      if z7 = 0 then
        cP (g_X5_isWord b1 (strC 10) h) fun z8 =>
        if z8 = 0 then
          cI (1) fun z9 =>
          cV (g_X5_refuse b1 z9 h) fun h10 =>
          j4 h10
        else
          cV (g_X0_readFlag b0 b1 h) fun h11 =>
          j4 h11
      else
        cV (g_X0_readStone b0 b1 h) fun h12 =>
        j4 h12
    else
      cV (g_X0_readHeap b0 b1 h) fun h13 =>
      j4 h13
  else
    cV (g_X0_readNumbers b0 b1 z1 h) fun h14 =>
    j4 h14
def g_X5_endClause (b0 : Nat) (h : Hp) : Option (Hp) :=
  cP (g_X5_isFaulty b0 h) fun z1 =>
  if z1 = 0 then
    cV (g_X5_advance b0 h) fun h2 =>
    gF h2 b0 3 fun z3 =>
    cI (3) fun z4 =>
    joinF (fun (a5 : Hp) =>
      some a5) fun j6 =>
    if z3 = z4 then
      j6 h2
    else
      cI (1) fun z8 =>
      cV (g_X5_refuse b0 z8 h2) fun h9 =>
      j6 h9
  else
    some h
def g_X0_readFrom_l8 (b0 : Nat) (b1 : Nat) (j4 : Hp → Option (Hp)) (l8 : Int × Hp → Option (Hp)) (q7 : Int × Hp) : Option (Hp) :=
      cI (900) fun z11 =>
      if z11 ≤ q7.1 then
        j4 q7.2
      else
        cW (g_X5_hasClause b1 q7.2) fun z12 h13 =>
        if z12 = 0 then
          j4 h13
        else
          cV (g_X0_readClause b0 b1 h13) fun h14 =>
          cV (g_X5_endClause b1 h14) fun h15 =>
          gF h15 b0 6 fun z16 =>
          cI (1) fun z17 =>
          addI z16 z17 fun z18 =>
          pF h15 b0 6 z18 fun h19 =>
          addI q7.1 (1) fun z20 =>
          l8 (z20, h19)
def g_X0_readFrom (b0 : Nat) (b1 : Nat) (h : Hp) : Option (Hp) :=
  cV (g_X0_clear b0 h) fun h1 =>
  cI (0) fun z2 =>
  joinF (fun (a3 : Hp) =>
    cV (g_X0_weigh b0 a3) fun h6 =>
    some h6) fun j4 =>
  loopF (g_X0_readFrom_l8 b0 b1 j4) FU (z2, h1)
def g_X8_beach_l22 (j15 : Hp → Option (Int × Hp)) (l22 : Int × Hp → Option (Int × Hp)) (q21 : Int × Hp) : Option (Int × Hp) :=
        cI (3) fun z25 =>
        if z25 ≤ q21.1 then
          j15 q21.2
        else
          cI (0) fun z26 =>
          wrZ q21.2 35 3 q21.1 z26 fun h27 =>
          addI q21.1 (1) fun z28 =>
          l22 (z28, h27)
def g_X8_beach (h : Hp) : Option (Int × Hp) :=
  cV (g_X5_startReading 1 h) fun h1 =>
  gR h1 0 2 [3, 9] fun q2 =>
  cV (g_X0_readFrom q2 1 h1) fun h3 =>
  cI (0) fun z4 =>
  pF h3 1 1 z4 fun h5 =>
  cP (g_X5_isFaulty 1 h5) fun z6 =>
  if z6 = 0 then
    gR h5 0 2 [3, 9] fun q7 =>
    gR h5 0 1 [3, 9] fun q8 =>
    pR h5 0 2 q8 fun h9 =>
    pR h9 0 1 q7 fun h10 =>
    cI (0) fun z11 =>
    pF h10 0 6 z11 fun h12 =>
    cI (0) fun z13 =>
    joinF (fun (a14 : Hp) =>
      gR a14 0 1 [3, 9] fun q17 =>
      cV (g_X3_begin 26 q17 a14) fun h18 =>
      gR h18 0 1 [3, 9] fun q19 =>
      gF h18 q19 6 fun z20 =>
      some (z20, h18)) fun j15 =>
    loopF (g_X8_beach_l22 j15) FU (z13, h12)
  else
    cI (-1) fun z29 =>
    some (z29, h5)
def g_X2_readWave (b0 : Nat) (b1 : Nat) (h : Hp) : Option (Hp) :=
  gF h b0 4 fun z1 =>
  cI (12) fun z2 =>
  if z1 < z2 then
    gF h b0 4 fun z3 =>
    cI (0) fun z4 =>
    cI (359) fun z5 =>
    cW (g_X5_need b1 z4 z5 h) fun z6 h7 =>
    wrI h7 (b0 + 2) 12 z3 z6 fun h8 =>
    gF h8 b0 4 fun z9 =>
    cI (5) fun z10 =>
    rdT T_X2_LEAST z10 fun z11 =>
    cI (5) fun z12 =>
    rdT T_X2_MOST z12 fun z13 =>
    cW (g_X5_need b1 z11 z13 h8) fun z14 h15 =>
    wrI h15 (b0 + 3) 12 z9 z14 fun h16 =>
    gF h16 b0 4 fun z17 =>
    cI (7) fun z18 =>
    rdT T_X2_LEAST z18 fun z19 =>
    cI (7) fun z20 =>
    rdT T_X2_MOST z20 fun z21 =>
    cW (g_X5_need b1 z19 z21 h16) fun z22 h23 =>
    wrI h23 (b0 + 4) 12 z17 z22 fun h24 =>
    gF h24 b0 4 fun z25 =>
    cI (1) fun z26 =>
    addI z25 z26 fun z27 =>
    pF h24 b0 4 z27 fun h28 =>
    some h28
  else
    cI (4) fun z29 =>
    cV (g_X5_refuse b1 z29 h) fun h30 =>
    some h30
def g_X2_isEndOfSpan (x1 : Int) : Option (Int) :=
  cI (1) fun z1 =>
  joinF (fun (a2 : Int) =>
    retZ a2) fun j3 =>
  joinF (fun (a5 : Unit) =>
    cI (1) fun z7 =>
    j3 z7) fun j6 =>
  if x1 = z1 then
    j6 ()
  else
    cI (5) fun z8 =>
    if x1 = z8 then
      j6 ()
    else
      cI (7) fun z9 =>
      if x1 = z9 then
        j6 ()
      else
        cI (0) fun z10 =>
        j3 z10
def g_X2_readNumbers_l17 (b0 : Nat) (b1 : Nat) (z15 : Int) (l17 : Int × Hp → Option (Hp)) (q16 : Int × Hp) : Option (Hp) :=
        if z15 ≤ q16.1 then
          some q16.2
        else
          cP (g_X2_isEndOfSpan q16.1) fun z20 =>
          joinF (fun (a21 : Int) =>
            rdT T_X2_MOST q16.1 fun z24 =>
            cW (g_X5_need b1 a21 z24 q16.2) fun z25 h26 =>
            wrI h26 (b0 + 1) 9 q16.1 z25 fun h27 =>
            addI q16.1 (1) fun z28 =>
            l17 (z28, h27)) fun j22 =>
          if z20 = 0 then
            rdT T_X2_LEAST q16.1 fun z29 =>
            j22 z29
          else
            cI (1) fun z30 =>
            subI q16.1 z30 fun z31 =>
            rdI q16.2 (b0 + 1) 9 z31 fun z32 =>
            j22 z32
def g_X2_readNumbers (b0 : Nat) (b1 : Nat) (x2 : Int) (x3 : Int) (h : Hp) : Option (Hp) :=
  gF h b0 6 fun z1 =>
  shrI z1 x2 fun z2 =>
  cI (1) fun z3 =>
  andI z2 z3 fun z4 =>
  joinF (fun (a5 : Hp) =>
    gF a5 b0 6 fun z8 =>
    cI (1) fun z9 =>
    shlI z9 x2 fun z10 =>
    orI z8 z10 fun z11 =>
    pF a5 b0 6 z11 fun h12 =>
    cI (9) fun z13 =>
    addI x2 x3 fun z14 =>
    minI z13 z14 fun z15 =>
    loopF (g_X2_readNumbers_l17 b0 b1 z15) FU (x2, h12)) fun j6 =>
  if z4 = 0 then
    j6 h
  else
    cI (3) fun z33 =>
    cV (g_X5_refuse b1 z33 h) fun h34 =>
    j6 h34
def g_X2_readClause (b0 : Nat) (b1 : Nat) (h : Hp) : Option (Hp) :=
  cP (g_X5_isWord b1 (strC 11) h) fun z1 =>
  joinF (fun (a2 : Hp) =>
    some a2) fun j3 =>
  if z1 = 0 then
    cP (g_X5_isWord b1 (strC 12) h) fun z5 =>
    if z5 = 0 then
      cP (g_X5_isWord b1 (strC 13) h) fun z6 =>
      if z6 = 0 then
        cP (g_X5_isWord b1 (strC 14) h) fun z7 =>
        if z7 = 0 then
          cP (g_X5_isWord b1 (strC 15) h) fun z8 =>
          if z8 = 0 then
            cI (1) fun z9 =>
            cV (g_X5_refuse b1 z9 h) fun h10 =>
            j3 h10
          else
            cI (8) fun z11 =>
            cI (1) fun z12 =>
            cV (g_X2_readNumbers b0 b1 z11 z12 h) fun h13 =>
            j3 h13
        else
          cI (6) fun z14 =>
          cI (2) fun z15 =>
          cV (g_X2_readNumbers b0 b1 z14 z15 h) fun h16 =>
          j3 h16
      else
        cI (4) fun z17 =>
        cI (2) fun z18 =>
        cV (g_X2_readNumbers b0 b1 z17 z18 h) fun h19 =>
        j3 h19
    else
      cI (0) fun z20 =>
      cI (4) fun z21 =>
      cV (g_X2_readNumbers b0 b1 z20 z21 h) fun h22 =>
      j3 h22
  else
    cV (g_X2_readWave b0 b1 h) fun h23 =>
    j3 h23
def g_X2_readFrom_l7 (b0 : Nat) (b1 : Nat) (j4 : Hp → Option (Hp)) (l7 : Int × Hp → Option (Hp)) (q6 : Int × Hp) : Option (Hp) :=
      cI (900) fun z10 =>
      if z10 ≤ q6.1 then
        j4 q6.2
      else
        cW (g_X5_hasClause b1 q6.2) fun z11 h12 =>
        if z11 = 0 then
          j4 h12
        else
          cV (g_X2_readClause b0 b1 h12) fun h13 =>
          cV (g_X5_endClause b1 h13) fun h14 =>
          gF h14 b0 5 fun z15 =>
          cI (1) fun z16 =>
          addI z15 z16 fun z17 =>
          pF h14 b0 5 z17 fun h18 =>
          addI q6.1 (1) fun z19 =>
          l7 (z19, h18)
def g_X2_readFrom (b0 : Nat) (b1 : Nat) (h : Hp) : Option (Hp) :=
  cV (g_X2_clear b0 h) fun h1 =>
  cI (0) fun z2 =>
  joinF (fun (a3 : Hp) =>
    some a3) fun j4 =>
  loopF (g_X2_readFrom_l7 b0 b1 j4) FU (z2, h1)
def g_X8_sea (h : Hp) : Option (Int × Hp) :=
  cV (g_X5_startReading 1 h) fun h1 =>
  gR h1 0 4 [15, 20] fun q2 =>
  cV (g_X2_readFrom q2 1 h1) fun h3 =>
  cI (0) fun z4 =>
  pF h3 1 1 z4 fun h5 =>
  cP (g_X5_isFaulty 1 h5) fun z6 =>
  if z6 = 0 then
    gR h5 0 4 [15, 20] fun q7 =>
    gR h5 0 3 [15, 20] fun q8 =>
    pR h5 0 4 q8 fun h9 =>
    pR h9 0 3 q7 fun h10 =>
    gR h10 0 3 [15, 20] fun q11 =>
    gF h10 q11 5 fun z12 =>
    some (z12, h10)
  else
    cI (-1) fun z13 =>
    some (z13, h5)
def g_X1_kindOf (b1 : Nat) (h : Hp) : Option (Int) :=
  cP (g_X5_isWord b1 (strC 17) h) fun z1 =>
  if z1 = 0 then
    cP (g_X5_isWord b1 (strC 18) h) fun z2 =>
    if z2 = 0 then
      cP (g_X5_isWord b1 (strC 19) h) fun z3 =>
      if z3 = 0 then
        cP (g_X5_isWord b1 (strC 20) h) fun z4 =>
        if z4 = 0 then
          cP (g_X5_isWord b1 (strC 21) h) fun z5 =>
          joinF (fun (a6 : Int) =>
            some a6) fun j7 =>
          if z5 = 0 then
            cI (-1) fun z9 =>
            j7 z9
          else
            cI (4) fun z10 =>
            j7 z10
        else
          cI (3) fun z11 =>
          some z11
      else
        cI (2) fun z12 =>
        some z12
    else
      cI (1) fun z13 =>
      some z13
  else
    cI (0) fun z14 =>
    some z14
def g_X1_readAct (b0 : Nat) (b1 : Nat) (b2 : Nat) (h : Hp) : Option (Hp) :=
  cP (g_X1_kindOf b1 h) fun z1 =>
  cI (-1) fun z2 =>
  if z1 = z2 then
    cI (1) fun z44 =>
    cV (g_X5_refuse b1 z44 h) fun h45 =>
    some h45
  else
    gF h b0 4 fun z3 =>
    rdI h (b0 + 1) 4 z3 fun z4 =>
    cI (8) fun z5 =>
    if z4 < z5 then
      gF h b0 4 fun z6 =>
      cI (8) fun z7 =>
      mulI z6 z7 fun z8 =>
      gF h b0 4 fun z9 =>
      rdI h (b0 + 1) 4 z9 fun z10 =>
      addI z8 z10 fun z11 =>
      wrI h (b0 + 2) 32 z11 z1 fun h12 =>
      cI (4) fun z13 =>
      joinF (fun (a14 : Int × Hp) =>
        wrI a14.2 (b0 + 3) 32 z11 a14.1 fun h18 =>
        joinF (fun (a19 : Int × Hp) =>
          wrI a19.2 (b0 + 4) 32 z11 a19.1 fun h23 =>
          joinF (fun (a24 : Hp) =>
            gF a24 b0 4 fun z27 =>
            rdI a24 (b0 + 1) 4 z27 fun z28 =>
            cI (1) fun z29 =>
            addI z28 z29 fun z30 =>
            wrI a24 (b0 + 1) 4 z27 z30 fun h31 =>
            some h31) fun j25 =>
          if z1 = 0 then
            rdI h23 (b0 + 4) 32 z11 fun z32 =>
            rdI h23 (b0 + 3) 32 z11 fun z33 =>
            if z32 = z33 then
              cI (3) fun z34 =>
              cV (g_X5_refuse b1 z34 h23) fun h35 =>
              j25 h35
            else
              j25 h23
          else
            j25 h23) fun j20 =>
        if z1 = 0 then
          cW (g_X0_needCell b2 b1 h18) fun z37 h38 =>
          j20 (z37, h38)
        else
          cI (-1) fun z36 =>
          j20 (z36, h18)) fun j15 =>
      if z1 = z13 then
        cI (-1) fun z41 =>
        j15 (z41, h12)
      else
        cW (g_X0_needCell b2 b1 h12) fun z39 h40 =>
        j15 (z39, h40)
    else
      cI (4) fun z42 =>
      cV (g_X5_refuse b1 z42 h) fun h43 =>
      some h43
def g_X1_readHand_l20 (b0 : Nat) (b1 : Nat) (b2 : Nat) (j10 : Hp → Option (Hp)) (j17 : Hp → Option (Hp)) (l20 : Int × Hp → Option (Hp)) (q19 : Int × Hp) : Option (Hp) :=
          cI (8) fun z23 =>
          if z23 < q19.1 then
            j10 q19.2
          else
            cP (g_X5_isFaulty b1 q19.2) fun z24 =>
            if z24 = 0 then
              joinF (fun (a25 : Unit) =>
                cV (g_X1_readAct b0 b1 b2 q19.2) fun h27 =>
                cV (g_X5_advance b1 h27) fun h28 =>
                addI q19.1 (1) fun z29 =>
                l20 (z29, h28)) fun j26 =>
              if q19.1 ≤ 0 then
                j26 ()
              else
                gF q19.2 b1 3 fun z30 =>
                cI (3) fun z31 =>
                if z30 = z31 then
                  j17 q19.2
                else
                  j26 ()
            else
              j10 q19.2
def g_X1_readHand (b0 : Nat) (b1 : Nat) (b2 : Nat) (h : Hp) : Option (Hp) :=
  cP (g_X5_isWord b1 (strC 16) h) fun z1 =>
  if z1 = 0 then
    cI (1) fun z34 =>
    cV (g_X5_refuse b1 z34 h) fun h35 =>
    some h35
  else
    gF h b0 4 fun z2 =>
    cI (4) fun z3 =>
    if z2 < z3 then
      gF h b0 4 fun z4 =>
      cI (0) fun z5 =>
      wrI h (b0 + 1) 4 z4 z5 fun h6 =>
      cV (g_X5_advance b1 h6) fun h7 =>
      cI (0) fun z8 =>
      joinF (fun (a9 : Hp) =>
        gF a9 b0 4 fun z12 =>
        cI (1) fun z13 =>
        addI z12 z13 fun z14 =>
        pF a9 b0 4 z14 fun h15 =>
        some h15) fun j10 =>
      joinF (fun (a16 : Hp) =>
        j10 a16) fun j17 =>
      loopF (g_X1_readHand_l20 b0 b1 b2 j10 j17) FU (z8, h7)
    else
      cI (4) fun z32 =>
      cV (g_X5_refuse b1 z32 h) fun h33 =>
      some h33
def g_X1_readFrom_l8 (b0 : Nat) (b1 : Nat) (b2 : Nat) (j5 : Hp → Option (Hp)) (l8 : Int × Hp → Option (Hp)) (q7 : Int × Hp) : Option (Hp) :=
      cI (900) fun z11 =>
      if z11 ≤ q7.1 then
        j5 q7.2
      else
        cW (g_X5_hasClause b1 q7.2) fun z12 h13 =>
        if z12 = 0 then
          j5 h13
        else
          cV (g_X1_readHand b0 b1 b2 h13) fun h14 =>
          addI q7.1 (1) fun z15 =>
          l8 (z15, h14)
def g_X1_readFrom (b0 : Nat) (b1 : Nat) (b2 : Nat) (h : Hp) : Option (Hp) :=
  cI (0) fun z1 =>
  pF h b0 4 z1 fun h2 =>
  cI (0) fun z3 =>
  joinF (fun (a4 : Hp) =>
    some a4) fun j5 =>
  loopF (g_X1_readFrom_l8 b0 b1 b2 j5) FU (z3, h2)
def g_X8_plan (h : Hp) : Option (Int × Hp) :=
  gF h 0 6 fun z1 =>
  cI (3) fun z2 =>
  if z1 < z2 then
    cV (g_X5_startReading 1 h) fun h3 =>
    gF h3 0 6 fun z4 =>
    rdQ 3 61 5 z4 fun q5 =>
    gR h3 0 1 [3, 9] fun q6 =>
    cV (g_X1_readFrom q5 1 q6 h3) fun h7 =>
    cI (0) fun z8 =>
    pF h7 1 1 z8 fun h9 =>
    cP (g_X5_isFaulty 1 h9) fun z10 =>
    if z10 = 0 then
      gF h9 0 6 fun z11 =>
      cI (1) fun z12 =>
      addI z11 z12 fun z13 =>
      pF h9 0 6 z13 fun h14 =>
      gF h14 0 6 fun z15 =>
      cI (1) fun z16 =>
      subI z15 z16 fun z17 =>
      some (z17, h14)
    else
      cI (-1) fun z18 =>
      some (z18, h9)
  else
    cI (0) fun z19 =>
    pF h 1 1 z19 fun h20 =>
    cI (-3) fun z21 =>
    some (z21, h20)
def g_X8_fault (x1 : Int) (h : Hp) : Option (Int) :=
  joinF (fun (a1 : Int) =>
    some a1) fun j2 =>
  if x1 = 0 then
    gF h 1 6 fun z5 =>
    j2 z5
  else
  if x1 = 1 then
    gF h 1 7 fun z7 =>
    j2 z7
  else
  cI (-1) fun z8 =>
  j2 z8
def g_X8_told (x1 : Int) (h : Hp) : Option (Int) :=
  joinF (fun (a1 : Unit) =>
    cI (13) fun z3 =>
    subI x1 z3 fun z4 =>
    joinF (fun (a5 : Unit) =>
      joinF (fun (a7 : Int) =>
        some a7) fun j8 =>
      if x1 = 11 then
        gR h 0 1 [3, 9] fun q11 =>
        gF h q11 5 fun z12 =>
        j8 z12
      else
      if x1 = 12 then
        gR h 0 3 [15, 20] fun q14 =>
        gF h q14 4 fun z15 =>
        j8 z15
      else
      if x1 = 22 then
        gF h 0 6 fun z17 =>
        j8 z17
      else
      if x1 = 23 then
        gF h 26 7 fun z19 =>
        j8 z19
      else
      cI (-1) fun z20 =>
      j8 z20) fun j6 =>
    if z4 < 0 then
      j6 ()
    else
      cI (9) fun z21 =>
      if z21 ≤ z4 then
        j6 ()
      else
        gR h 0 3 [15, 20] fun q22 =>
        rdI h (q22 + 1) 9 z4 fun z23 =>
        some z23) fun j2 =>
  if x1 < 0 then
    j2 ()
  else
    cI (11) fun z24 =>
    if z24 ≤ x1 then
      j2 ()
    else
      gR h 0 1 [3, 9] fun q25 =>
      rdI h (q25 + 1) 11 x1 fun z26 =>
      some z26
def g_X8_wave (x1 : Int) (x2 : Int) (h : Hp) : Option (Int) :=
  joinF (fun (a1 : Unit) =>
    cI (-2) fun z3 =>
    some z3) fun j2 =>
  if x1 < 0 then
    j2 ()
  else
    gR h 0 3 [15, 20] fun q4 =>
    gF h q4 4 fun z5 =>
    if x1 < z5 then
      joinF (fun (a6 : Int) =>
        some a6) fun j7 =>
      if x2 = 0 then
        gR h 0 3 [15, 20] fun q10 =>
        rdI h (q10 + 2) 12 x1 fun z11 =>
        j7 z11
      else
      if x2 = 1 then
        gR h 0 3 [15, 20] fun q13 =>
        rdI h (q13 + 3) 12 x1 fun z14 =>
        j7 z14
      else
      if x2 = 2 then
        gR h 0 3 [15, 20] fun q16 =>
        rdI h (q16 + 4) 12 x1 fun z17 =>
        j7 z17
      else
      cI (-2) fun z18 =>
      j7 z18
    else
      j2 ()
def g_X8_act (x1 : Int) (x2 : Int) (x3 : Int) (x4 : Int) (h : Hp) : Option (Int) :=
  joinF (fun (a1 : Unit) =>
    cI (-2) fun z3 =>
    some z3) fun j2 =>
  if x1 < 0 then
    j2 ()
  else
    gF h 0 6 fun z4 =>
    if x1 < z4 then
      rdQ 3 61 5 x1 fun q5 =>
      cI (-1) fun z6 =>
      if x2 = z6 then
        gF h q5 4 fun z30 =>
        some z30
      else
        joinF (fun (a7 : Unit) =>
          cI (-2) fun z9 =>
          some z9) fun j8 =>
        if x2 < 0 then
          j8 ()
        else
          gF h q5 4 fun z10 =>
          if x2 < z10 then
            cI (-1) fun z11 =>
            if x3 = z11 then
              rdI h (q5 + 1) 4 x2 fun z29 =>
              some z29
            else
              joinF (fun (a12 : Unit) =>
                cI (-2) fun z14 =>
                some z14) fun j13 =>
              if x3 < 0 then
                j13 ()
              else
                rdI h (q5 + 1) 4 x2 fun z15 =>
                if x3 < z15 then
                  cI (8) fun z16 =>
                  mulI x2 z16 fun z17 =>
                  addI z17 x3 fun z18 =>
                  joinF (fun (a19 : Int) =>
                    some a19) fun j20 =>
                  if x4 = 0 then
                    rdI h (q5 + 2) 32 z18 fun z23 =>
                    j20 z23
                  else
                  if x4 = 1 then
                    rdI h (q5 + 3) 32 z18 fun z25 =>
                    j20 z25
                  else
                  if x4 = 2 then
                    rdI h (q5 + 4) 32 z18 fun z27 =>
                    j20 z27
                  else
                  cI (-2) fun z28 =>
                  j20 z28
                else
                  j13 ()
          else
            j8 ()
    else
      j2 ()
def g_X8_chance (x1 : Int) (h : Hp) : Option (Int × Hp) :=
  if 0 ≤ x1 then
    pF h 26 8 x1 fun h1 =>
    cI (1) fun z2 =>
    some (z2, h1)
  else
    cI (-2) fun z3 =>
    some (z3, h)
def g_X8_isPlanOrNone (x1 : Int) (h : Hp) : Option (Int) :=
  cI (-1) fun z1 =>
  joinF (fun (a2 : Int) =>
    retZ a2) fun j3 =>
  joinF (fun (a5 : Unit) =>
    cI (0) fun z7 =>
    j3 z7) fun j6 =>
  if x1 < z1 then
    j6 ()
  else
    gF h 0 6 fun z8 =>
    if z8 ≤ x1 then
      j6 ()
    else
      cI (1) fun z9 =>
      j3 z9
def g_X8_work (x1 : Int) (h : Hp) : Option (Int × Hp) :=
  cP (g_X8_isPlanOrNone x1 h) fun z1 =>
  if z1 = 0 then
    cI (-2) fun z4 =>
    some (z4, h)
  else
    cV (g_X3_hold 26 x1 h) fun h2 =>
    cI (1) fun z3 =>
    some (z3, h2)
def g_X3_isPlace (x1 : Int) : Option (Int) :=
  joinF (fun (a1 : Int) =>
    retZ a1) fun j2 =>
  joinF (fun (a4 : Unit) =>
    cI (0) fun z6 =>
    j2 z6) fun j5 =>
  if x1 < 0 then
    j5 ()
  else
    cI (64) fun z7 =>
    if z7 ≤ x1 then
      j5 ()
    else
      cI (1) fun z8 =>
      j2 z8
def g_X3_moveUnit (b0 : Nat) (x1 : Int) (x2 : Int) (h : Hp) : Option (Hp) :=
  rdI h (b0 + 1) 64 x2 fun z1 =>
  joinF (fun (a2 : Int) =>
    rdI h (b0 + 2) 64 x2 fun z5 =>
    mulI z5 a2 fun z6 =>
    rdI h (b0 + 2) 64 x1 fun z7 =>
    addI z6 z7 fun z8 =>
    cI (1) fun z9 =>
    addI a2 z9 fun z10 =>
    divI z8 z10 fun z11 =>
    wrI h (b0 + 2) 64 x2 z11 fun h12 =>
    cI (0) fun z13 =>
    wrI h12 (b0 + 3) 64 x2 z13 fun h14 =>
    rdI h14 (b0 + 1) 64 x1 fun z15 =>
    cI (1) fun z16 =>
    subI z15 z16 fun z17 =>
    wrI h14 (b0 + 1) 64 x1 z17 fun h18 =>
    rdI h18 (b0 + 1) 64 x2 fun z19 =>
    cI (1) fun z20 =>
    addI z19 z20 fun z21 =>
    wrI h18 (b0 + 1) 64 x2 z21 fun h22 =>
    some h22) fun j3 =>
  if z1 ≤ 0 then
    cI (0) fun z23 =>
    j3 z23
  else
    rdI h (b0 + 1) 64 x2 fun z24 =>
    j3 z24
def g_X3_dig (b0 : Nat) (x1 : Int) (x2 : Int) (h : Hp) : Option (Hp) :=
  cP (g_X3_isPlace x2) fun z1 =>
  joinF (fun (a2 : Unit) =>
    some h) fun j3 =>
  if z1 = 0 then
    j3 ()
  else
    rdI h (b0 + 1) 64 x1 fun z4 =>
    cI (1) fun z5 =>
    if z4 < z5 then
      j3 ()
    else
      rdI h (b0 + 4) 64 x1 fun z6 =>
      if z6 = 0 then
        rdI h (b0 + 4) 64 x2 fun z7 =>
        if z7 = 0 then
          cV (g_X3_moveUnit b0 x1 x2 h) fun h8 =>
          cI (0) fun z9 =>
          wrI h8 (b0 + 3) 64 x1 z9 fun h10 =>
          some h10
        else
          j3 ()
      else
        j3 ()
def g_X3_perform (b0 : Nat) (x1 : Int) (x2 : Int) (x3 : Int) (h : Hp) : Option (Hp) :=
  cI (4) fun z1 =>
  joinF (fun (a2 : Unit) =>
    some h) fun j3 =>
  if x1 = z1 then
    j3 ()
  else
    cP (g_X3_isPlace x2) fun z4 =>
    if z4 = 0 then
      j3 ()
    else
      cI (0) fun z5 =>
      pZ h b0 15 z5 fun h6 =>
      joinF (fun (a7 : Hp) =>
        some a7) fun j8 =>
      if x1 = 0 then
        cV (g_X3_dig b0 x2 x3 h6) fun h27 =>
        j8 h27
      else
        cI (1) fun z10 =>
        if x1 = z10 then
          cI (4) fun z21 =>
          rdI h6 (b0 + 3) 64 x2 fun z22 =>
          cI (1) fun z23 =>
          addI z22 z23 fun z24 =>
          minI z21 z24 fun z25 =>
          wrI h6 (b0 + 3) 64 x2 z25 fun h26 =>
          j8 h26
        else
          cI (2) fun z11 =>
          if x1 = z11 then
            cI (15) fun z15 =>
            rdI h6 (b0 + 2) 64 x2 fun z16 =>
            cI (4) fun z17 =>
            addI z16 z17 fun z18 =>
            minI z15 z18 fun z19 =>
            wrI h6 (b0 + 2) 64 x2 z19 fun h20 =>
            j8 h20
          else
            cI (3) fun z12 =>
            if x1 = z12 then
              cI (1) fun z13 =>
              wrI h6 (b0 + 4) 64 x2 z13 fun h14 =>
              j8 h14
            else
              j8 h6
def g_X3_moveHands_l6 (b0 : Nat) (b1 : Nat) (j3 : Hp → Option (Hp)) (x2 : Int) (l6 : Int × Hp → Option (Hp)) (q5 : Int × Hp) : Option (Hp) :=
      gF q5.2 b1 4 fun z9 =>
      if z9 ≤ q5.1 then
        j3 q5.2
      else
        cI (4) fun z10 =>
        if z10 ≤ q5.1 then
          j3 q5.2
        else
          joinF (fun (a11 : Hp) =>
            addI q5.1 (1) fun z14 =>
            l6 (z14, a11)) fun j12 =>
          joinF (fun (a15 : Unit) =>
            rdI q5.2 (b0 + 6) 4 q5.1 fun z17 =>
            rdI q5.2 (b1 + 1) 4 q5.1 fun z18 =>
            joinF (fun (a19 : Int) =>
              cI (8) fun z22 =>
              mulI q5.1 z22 fun z23 =>
              addI z23 a19 fun z24 =>
              rdI q5.2 (b1 + 2) 32 z24 fun z25 =>
              rdI q5.2 (b1 + 3) 32 z24 fun z26 =>
              rdI q5.2 (b1 + 4) 32 z24 fun z27 =>
              cV (g_X3_perform b0 z25 z26 z27 q5.2) fun h28 =>
              cI (1) fun z29 =>
              addI a19 z29 fun z30 =>
              wrI h28 (b0 + 6) 4 q5.1 z30 fun h31 =>
              rdI h31 (b0 + 7) 4 q5.1 fun z32 =>
              cI (1) fun z33 =>
              addI z32 z33 fun z34 =>
              wrI h31 (b0 + 7) 4 q5.1 z34 fun h35 =>
              j12 h35) fun j20 =>
            if z18 ≤ z17 then
              cI (0) fun z36 =>
              j20 z36
            else
              rdI q5.2 (b0 + 6) 4 q5.1 fun z37 =>
              j20 z37) fun j16 =>
          if x2 ≤ 0 then
            j16 ()
          else
            rdI q5.2 (b0 + 7) 4 q5.1 fun z38 =>
            if z38 < x2 then
              j16 ()
            else
              cI (0) fun z39 =>
              wrI q5.2 (b0 + 7) 4 q5.1 z39 fun h40 =>
              j12 h40
def g_X3_moveHands (b0 : Nat) (b1 : Nat) (x2 : Int) (h : Hp) : Option (Hp) :=
  cI (0) fun z1 =>
  joinF (fun (a2 : Hp) =>
    some a2) fun j3 =>
  loopF (g_X3_moveHands_l6 b0 b1 j3 x2) FU (z1, h)
def g_X2_cut (b0 : Nat) (h : Hp) : Option (Int) :=
  cI (8) fun z1 =>
  rdI h (b0 + 1) 9 z1 fun z2 =>
  some z2
def g_X0_cells (b0 : Nat) (h : Hp) : Option (Int) :=
  cI (0) fun z1 =>
  rdI h (b0 + 1) 11 z1 fun z2 =>
  cI (1) fun z3 =>
  rdI h (b0 + 1) 11 z3 fun z4 =>
  mulI z2 z4 fun z5 =>
  some z5
def g_X3_soak (b0 : Nat) (x1 : Int) (h : Hp) : Option (Hp) :=
  rdI h (b0 + 2) 64 x1 fun z1 =>
  cI (16) fun z2 =>
  joinF (fun (a3 : Hp) =>
    some a3) fun j4 =>
  if z1 = z2 then
    j4 h
  else
    cI (16) fun z6 =>
    wrI h (b0 + 2) 64 x1 z6 fun h7 =>
    cI (0) fun z8 =>
    pZ h7 b0 15 z8 fun h9 =>
    j4 h9
def g_X3_carryOff (b0 : Nat) (x1 : Int) (x2 : Int) (h : Hp) : Option (Hp) :=
  joinF (fun (a1 : Hp) =>
    some a1) fun j2 =>
  if x2 ≤ 0 then
    j2 h
  else
    rdI h (b0 + 1) 64 x1 fun z4 =>
    subI z4 x2 fun z5 =>
    wrI h (b0 + 1) 64 x1 z5 fun h6 =>
    gF h6 b0 10 fun z7 =>
    addI z7 x2 fun z8 =>
    pF h6 b0 10 z8 fun h9 =>
    cI (0) fun z10 =>
    pZ h9 b0 15 z10 fun h11 =>
    j2 h11
def g_X3_runUpColumn_l25 (b0 : Nat) (j5 : Hp → Option (Hp)) (j8 : Int × Hp → Option (Hp)) (j15 : Int × Hp → Option (Hp)) (x3 : Int) (x4 : Int) (z1 : Int) (z2 : Int) (l25 : Int × Int × Hp → Option (Hp)) (q24 : Int × Int × Hp) : Option (Hp) :=
      if x3 ≤ q24.2.1 then
        j5 q24.2.2
      else
        if z2 ≤ q24.1 then
          j5 q24.2.2
        else
          rdI q24.2.2 (b0 + 4) 64 q24.1 fun z29 =>
          if z29 = 0 then
            cV (g_X3_soak b0 q24.1 q24.2.2) fun h30 =>
            rdI h30 (b0 + 1) 64 q24.1 fun z31 =>
            if z31 ≤ x4 then
              addI q24.1 z1 fun z32 =>
              addI q24.2.1 (1) fun z33 =>
              l25 (z32, z33, h30)
            else
              j8 (q24.1, h30)
          else
            j15 (q24.1, q24.2.2)
def g_X3_runUpColumn (b0 : Nat) (b1 : Nat) (x2 : Int) (x3 : Int) (x4 : Int) (x5 : Int) (h : Hp) : Option (Hp) :=
  cP (g_X0_columns b1 h) fun z1 =>
  cP (g_X0_cells b1 h) fun z2 =>
  cI (0) fun z3 =>
  joinF (fun (a4 : Hp) =>
    some a4) fun j5 =>
  joinF (fun (a7 : Int × Hp) =>
    rdI a7.2 (b0 + 1) 64 a7.1 fun z11 =>
    minI x5 z11 fun z12 =>
    cV (g_X3_carryOff b0 a7.1 z12 a7.2) fun h13 =>
    some h13) fun j8 =>
  joinF (fun (a14 : Int × Hp) =>
    addI a14.1 z1 fun z18 =>
    joinF (fun (a19 : Hp) =>
      some a19) fun j20 =>
    if z2 ≤ z18 then
      j20 a14.2
    else
      addI a14.1 z1 fun z22 =>
      cV (g_X3_soak b0 z22 a14.2) fun h23 =>
      j20 h23) fun j15 =>
  loopF (g_X3_runUpColumn_l25 b0 j5 j8 j15 x3 x4 z1 z2) FU (x2, z3, h)
def g_X3_runUp_l7 (b0 : Nat) (b1 : Nat) (x2 : Int) (x3 : Int) (x4 : Int) (l7 : Int × Hp → Option (Hp)) (q6 : Int × Hp) : Option (Hp) :=
      cP (g_X0_columns b1 q6.2) fun z10 =>
      if z10 ≤ q6.1 then
        some q6.2
      else
        cV (g_X3_runUpColumn b0 b1 q6.1 x2 x3 x4 q6.2) fun h11 =>
        addI q6.1 (1) fun z12 =>
        l7 (z12, h11)
def g_X3_runUp (b0 : Nat) (b1 : Nat) (x2 : Int) (x3 : Int) (x4 : Int) (h : Hp) : Option (Hp) :=
  gF h b0 14 fun z1 =>
  cI (1) fun z2 =>
  addI z1 z2 fun z3 =>
  pF h b0 14 z3 fun h4 =>
  cI (0) fun z5 =>
  loopF (g_X3_runUp_l7 b0 b1 x2 x3 x4) FU (z5, h4)
def g_X2_isTideMinute (b0 : Nat) (x1 : Int) (h : Hp) : Option (Int) :=
  cI (2) fun z1 =>
  rdI h (b0 + 1) 9 z1 fun z2 =>
  joinF (fun (a3 : Int) =>
    retZ a3) fun j4 =>
  joinF (fun (a6 : Unit) =>
    cI (0) fun z8 =>
    j4 z8) fun j7 =>
  if z2 ≤ 0 then
    j7 ()
  else
    cI (0) fun z9 =>
    rdI h (b0 + 1) 9 z9 fun z10 =>
    if x1 < z10 then
      j7 ()
    else
      cI (1) fun z11 =>
      rdI h (b0 + 1) 9 z11 fun z12 =>
      if z12 < x1 then
        j7 ()
      else
        cI (0) fun z13 =>
        rdI h (b0 + 1) 9 z13 fun z14 =>
        subI x1 z14 fun z15 =>
        remI z15 z2 fun z16 =>
        if z16 = 0 then
          cI (1) fun z17 =>
          j4 z17
        else
          j7 ()
def g_X3_draw (b0 : Nat) (x1 : Int) (h : Hp) : Option (Int × Hp) :=
  cI (1103515245) fun z1 =>
  gF h b0 8 fun z2 =>
  mulI z1 z2 fun z3 =>
  cI (12345) fun z4 =>
  addI z3 z4 fun z5 =>
  cI (2147483647) fun z6 =>
  andI z5 z6 fun z7 =>
  pF h b0 8 z7 fun h8 =>
  joinF (fun (a9 : Int) =>
    some (a9, h8)) fun j10 =>
  if x1 ≤ 0 then
    cI (0) fun z12 =>
    j10 z12
  else
    gF h8 b0 8 fun z13 =>
    cI (16) fun z14 =>
    shrI z13 z14 fun z15 =>
    remI z15 x1 fun z16 =>
    j10 z16
def g_X3_drawFrom (b0 : Nat) (x1 : Int) (x2 : Int) (h : Hp) : Option (Int × Hp) :=
  subI x2 x1 fun z1 =>
  cI (1) fun z2 =>
  addI z1 z2 fun z3 =>
  cW (g_X3_draw b0 z3 h) fun z4 h5 =>
  addI x1 z4 fun z6 =>
  some (z6, h5)
def g_X3_meetWaves_l30 (b0 : Nat) (b1 : Nat) (b2 : Nat) (j3 : Hp → Option (Hp)) (l30 : Int × Hp → Option (Hp)) (q29 : Int × Hp) : Option (Hp) :=
      gF q29.2 b2 4 fun z33 =>
      if z33 ≤ q29.1 then
        j3 q29.2
      else
        cI (12) fun z34 =>
        if z34 ≤ q29.1 then
          j3 q29.2
        else
          rdI q29.2 (b2 + 2) 12 q29.1 fun z35 =>
          gF q29.2 b0 9 fun z36 =>
          joinF (fun (a37 : Hp) =>
            addI q29.1 (1) fun z40 =>
            l30 (z40, a37)) fun j38 =>
          if z35 = z36 then
            rdI q29.2 (b2 + 3) 12 q29.1 fun z41 =>
            rdI q29.2 (b2 + 4) 12 q29.1 fun z42 =>
            cP (g_X2_cut b2 q29.2) fun z43 =>
            cV (g_X3_runUp b0 b1 z41 z42 z43 q29.2) fun h44 =>
            j38 h44
          else
            j38 q29.2
def g_X3_meetWaves (b0 : Nat) (b1 : Nat) (b2 : Nat) (h : Hp) : Option (Hp) :=
  cI (0) fun z1 =>
  joinF (fun (a2 : Hp) =>
    gF a2 b0 9 fun z5 =>
    cP (g_X2_isTideMinute b2 z5 a2) fun z6 =>
    joinF (fun (a7 : Hp) =>
      some a7) fun j8 =>
    if z6 = 0 then
      j8 a2
    else
      cI (100) fun z10 =>
      cW (g_X3_draw b0 z10 a2) fun z11 h12 =>
      cI (3) fun z13 =>
      rdI h12 (b2 + 1) 9 z13 fun z14 =>
      if z14 ≤ z11 then
        j8 h12
      else
        cI (4) fun z15 =>
        rdI h12 (b2 + 1) 9 z15 fun z16 =>
        cI (5) fun z17 =>
        rdI h12 (b2 + 1) 9 z17 fun z18 =>
        cW (g_X3_drawFrom b0 z16 z18 h12) fun z19 h20 =>
        cI (6) fun z21 =>
        rdI h20 (b2 + 1) 9 z21 fun z22 =>
        cI (7) fun z23 =>
        rdI h20 (b2 + 1) 9 z23 fun z24 =>
        cW (g_X3_drawFrom b0 z22 z24 h20) fun z25 h26 =>
        cP (g_X2_cut b2 h26) fun z27 =>
        cV (g_X3_runUp b0 b1 z19 z25 z27 h26) fun h28 =>
        j8 h28) fun j3 =>
  loopF (g_X3_meetWaves_l30 b0 b1 b2 j3) FU (z1, h)
def g_X3_shine_l4 (b0 : Nat) (z1 : Int) (l4 : Int × Hp → Option (Hp)) (q3 : Int × Hp) : Option (Hp) :=
      if z1 ≤ q3.1 then
        some q3.2
      else
        rdI q3.2 (b0 + 2) 64 q3.1 fun z7 =>
        joinF (fun (a8 : Hp) =>
          addI q3.1 (1) fun z11 =>
          l4 (z11, a8)) fun j9 =>
        if z7 ≤ 0 then
          j9 q3.2
        else
          cI (0) fun z12 =>
          rdI q3.2 (b0 + 2) 64 q3.1 fun z13 =>
          rdI q3.2 (b0 + 1) 64 q3.1 fun z14 =>
          cI (10) fun z15 =>
          joinF (fun (a16 : Int) =>
            subI z13 a16 fun z19 =>
            maxI z12 z19 fun z20 =>
            wrI q3.2 (b0 + 2) 64 q3.1 z20 fun h21 =>
            cI (0) fun z22 =>
            pZ h21 b0 15 z22 fun h23 =>
            j9 h23) fun j17 =>
          if z14 < z15 then
            cI (1) fun z24 =>
            j17 z24
          else
            cI (2) fun z25 =>
            j17 z25
def g_X3_shine (b0 : Nat) (b1 : Nat) (h : Hp) : Option (Hp) :=
  cP (g_X0_cells b1 h) fun z1 =>
  cP (g_X0_columns b1 h) fun z2 =>
  loopF (g_X3_shine_l4 b0 z1) FU (z2, h)
def g_X3_lowerOf (b0 : Nat) (x1 : Int) (x2 : Int) (h : Hp) : Option (Int) :=
  rdI h (b0 + 4) 64 x2 fun z1 =>
  joinF (fun (a2 : Unit) =>
    some x1) fun j3 =>
  if z1 = 0 then
    cI (-1) fun z4 =>
    joinF (fun (a5 : Unit) =>
      some x2) fun j6 =>
    if x1 = z4 then
      j6 ()
    else
      rdI h (b0 + 1) 64 x1 fun z7 =>
      rdI h (b0 + 1) 64 x2 fun z8 =>
      if z8 < z7 then
        j6 ()
      else
        j3 ()
  else
    j3 ()
def g_X3_lowestBeside (b0 : Nat) (b1 : Nat) (x2 : Int) (x3 : Int) (h : Hp) : Option (Int) :=
  cP (g_X0_columns b1 h) fun z1 =>
  cI (-1) fun z2 =>
  joinF (fun (a3 : Int) =>
    joinF (fun (a6 : Int) =>
      cI (1) fun z9 =>
      addI x3 z9 fun z10 =>
      joinF (fun (a11 : Int) =>
        addI x2 z1 fun z14 =>
        cP (g_X0_cells b1 h) fun z15 =>
        joinF (fun (a16 : Int) =>
          some a16) fun j17 =>
        if z15 ≤ z14 then
          j17 a11
        else
          addI x2 z1 fun z19 =>
          cP (g_X3_lowerOf b0 a11 z19 h) fun z20 =>
          j17 z20) fun j12 =>
      if z1 ≤ z10 then
        j12 a6
      else
        cI (1) fun z21 =>
        addI x2 z21 fun z22 =>
        cP (g_X3_lowerOf b0 a6 z22 h) fun z23 =>
        j12 z23) fun j7 =>
    if x3 ≤ 0 then
      j7 a3
    else
      cI (1) fun z24 =>
      subI x2 z24 fun z25 =>
      cP (g_X3_lowerOf b0 a3 z25 h) fun z26 =>
      j7 z26) fun j4 =>
  if x2 < z1 then
    j4 z2
  else
    subI x2 z1 fun z27 =>
    cP (g_X3_lowerOf b0 z2 z27 h) fun z28 =>
    j4 z28
def g_X0_bearing (b0 : Nat) (x1 : Int) (x2 : Int) (h : Hp) : Option (Int) :=
  joinF (fun (a1 : Int) =>
    cI (1) fun z4 =>
    addI z4 a1 fun z5 =>
    cI (3) fun z6 =>
    rdI h (b0 + 1) 11 z6 fun z7 =>
    mulI x2 z7 fun z8 =>
    addI z5 z8 fun z9 =>
    some z9) fun j2 =>
  joinF (fun (a10 : Unit) =>
    cI (0) fun z12 =>
    j2 z12) fun j11 =>
  if x1 < 0 then
    j11 ()
  else
    cI (16) fun z13 =>
    if z13 < x1 then
      j11 ()
    else
      rdI h (b0 + 5) 17 x1 fun z14 =>
      j2 z14
def g_X3_slideFrom (b0 : Nat) (b1 : Nat) (x2 : Int) (x3 : Int) (h : Hp) : Option (Int × Hp) :=
  cP (g_X3_lowestBeside b0 b1 x2 x3 h) fun z1 =>
  cI (-1) fun z2 =>
  joinF (fun (a3 : Unit) =>
    cI (0) fun z5 =>
    some (z5, h)) fun j4 =>
  if z1 = z2 then
    j4 ()
  else
    rdI h (b0 + 1) 64 x2 fun z6 =>
    rdI h (b0 + 1) 64 z1 fun z7 =>
    subI z6 z7 fun z8 =>
    rdI h (b0 + 2) 64 x2 fun z9 =>
    rdI h (b0 + 3) 64 x2 fun z10 =>
    cP (g_X0_bearing b1 z9 z10 h) fun z11 =>
    if z11 < z8 then
      cV (g_X3_moveUnit b0 x2 z1 h) fun h12 =>
      cI (1) fun z13 =>
      some (z13, h12)
    else
      j4 ()
def g_X3_slide_l60 (b0 : Nat) (b1 : Nat) (j54 : Int × Int × Hp → Option (Hp)) (z1 : Int) (l60 : Int × Int × Int × Hp → Option (Hp)) (q59 : Int × Int × Int × Hp) : Option (Hp) :=
                    if z1 ≤ q59.2.2.1 then
                      j54 (q59.1, q59.2.1, q59.2.2.2)
                    else
                      rdI q59.2.2.2 (b0 + 1) 64 q59.2.1 fun z65 =>
                      cI (1) fun z66 =>
                      joinF (fun (a67 : Int × Hp) =>
                        addI q59.2.1 (1) fun z71 =>
                        addI q59.2.2.1 (1) fun z72 =>
                        l60 (a67.1, z71, z72, a67.2)) fun j68 =>
                      if z65 ≤ z66 then
                        j68 (q59.1, q59.2.2.2)
                      else
                        rdI q59.2.2.2 (b0 + 4) 64 q59.2.1 fun z73 =>
                        if z73 = 0 then
                          cW (g_X3_slideFrom b0 b1 q59.2.1 q59.2.2.1 q59.2.2.2) fun z74 h75 =>
                          addI q59.1 z74 fun z76 =>
                          j68 (z76, h75)
                        else
                          j68 (q59.1, q59.2.2.2)
def g_X3_slide_l47 (b0 : Nat) (b1 : Nat) (j25 : Int × Hp → Option (Hp)) (z1 : Int) (z2 : Int) (l47 : Int × Int × Int × Hp → Option (Hp)) (q46 : Int × Int × Int × Hp) : Option (Hp) :=
              if z2 ≤ q46.2.2.1 then
                j25 (q46.1, q46.2.2.2)
              else
                cI (0) fun z52 =>
                joinF (fun (a53 : Int × Int × Hp) =>
                  addI q46.2.2.1 (1) fun z58 =>
                  l47 (a53.1, a53.2.1, z58, a53.2.2)) fun j54 =>
                loopF (g_X3_slide_l60 b0 b1 j54 z1) FU (q46.1, q46.2.1, z52, q46.2.2.2)
def g_X3_slide_l16 (b0 : Nat) (b1 : Nat) (j9 : Hp → Option (Hp)) (z1 : Int) (z2 : Int) (l16 : Int × Hp → Option (Hp)) (q15 : Int × Hp) : Option (Hp) :=
      cI (50) fun z19 =>
      if z19 ≤ q15.1 then
        j9 q15.2
      else
        gF q15.2 b0 15 fun z20 =>
        if z20 = 0 then
          cI (0) fun z21 =>
          cI (0) fun z22 =>
          cI (0) fun z23 =>
          joinF (fun (a24 : Int × Hp) =>
            gF a24.2 b0 12 fun z28 =>
            addI z28 a24.1 fun z29 =>
            pF a24.2 b0 12 z29 fun h30 =>
            gF h30 b0 13 fun z31 =>
            joinF (fun (a32 : Int) =>
              addI z31 a32 fun z35 =>
              pF h30 b0 13 z35 fun h36 =>
              joinF (fun (a37 : Int) =>
                pZ h36 b0 15 a37 fun h40 =>
                addI q15.1 (1) fun z41 =>
                l16 (z41, h40)) fun j38 =>
              if a24.1 = 0 then
                cI (1) fun z43 =>
                j38 z43
              else
                cI (0) fun z42 =>
                j38 z42) fun j33 =>
            if a24.1 ≤ 0 then
              cI (0) fun z44 =>
              j33 z44
            else
              cI (1) fun z45 =>
              j33 z45) fun j25 =>
          loopF (g_X3_slide_l47 b0 b1 j25 z1 z2) FU (z21, z22, z23, q15.2)
        else
          j9 q15.2
def g_X3_slide (b0 : Nat) (b1 : Nat) (h : Hp) : Option (Hp) :=
  cP (g_X0_columns b1 h) fun z1 =>
  cP (g_X0_rows b1 h) fun z2 =>
  cI (0) fun z3 =>
  pF h b0 12 z3 fun h4 =>
  cI (0) fun z5 =>
  pF h4 b0 13 z5 fun h6 =>
  cI (0) fun z7 =>
  joinF (fun (a8 : Hp) =>
    gF a8 b0 11 fun z11 =>
    gF a8 b0 12 fun z12 =>
    addI z11 z12 fun z13 =>
    pF a8 b0 11 z13 fun h14 =>
    some h14) fun j9 =>
  loopF (g_X3_slide_l16 b0 b1 j9 z1 z2) FU (z7, h6)
def g_X0_fall (b0 : Nat) (h : Hp) : Option (Int) :=
  cI (6) fun z1 =>
  rdI h (b0 + 1) 11 z1 fun z2 =>
  some z2
def g_X3_dropFlags_l6 (b0 : Nat) (b1 : Nat) (j3 : Hp → Option (Hp)) (l6 : Int × Hp → Option (Hp)) (q5 : Int × Hp) : Option (Hp) :=
      gF q5.2 b1 5 fun z9 =>
      if z9 ≤ q5.1 then
        j3 q5.2
      else
        cI (3) fun z10 =>
        if z10 ≤ q5.1 then
          j3 q5.2
        else
          rdI q5.2 (b1 + 4) 3 q5.1 fun z11 =>
          rdI q5.2 (b0 + 5) 3 q5.1 fun z12 =>
          cI (-1) fun z13 =>
          joinF (fun (a14 : Hp) =>
            addI q5.1 (1) fun z17 =>
            l6 (z17, a14)) fun j15 =>
          if z12 = z13 then
            rdI q5.2 (b0 + 1) 64 z11 fun z18 =>
            cP (g_X0_firstHeight b1 z11 q5.2) fun z19 =>
            cP (g_X0_fall b1 q5.2) fun z20 =>
            subI z19 z20 fun z21 =>
            if z21 ≤ z18 then
              j15 q5.2
            else
              gF q5.2 b0 9 fun z22 =>
              wrI q5.2 (b0 + 5) 3 q5.1 z22 fun h23 =>
              j15 h23
          else
            j15 q5.2
def g_X3_dropFlags (b0 : Nat) (b1 : Nat) (h : Hp) : Option (Hp) :=
  cI (0) fun z1 =>
  joinF (fun (a2 : Hp) =>
    some a2) fun j3 =>
  loopF (g_X3_dropFlags_l6 b0 b1 j3) FU (z1, h)
def g_X3_live (b0 : Nat) (b1 : Nat) (b2 : Nat) (n3 : Int) (h : Hp) : Option (Hp) :=
  joinF (fun (a1 : Hp) =>
    cV (g_X3_meetWaves b0 b1 b2 a1) fun h4 =>
    cI (4) fun z5 =>
    rdI h4 (b1 + 1) 11 z5 fun z6 =>
    joinF (fun (a7 : Hp) =>
      cV (g_X3_slide b0 b1 a7) fun h10 =>
      cV (g_X3_dropFlags b0 b1 h10) fun h11 =>
      gF h11 b0 9 fun z12 =>
      cI (1) fun z13 =>
      addI z12 z13 fun z14 =>
      pF h11 b0 9 z14 fun h15 =>
      some h15) fun j8 =>
    if z6 ≤ 0 then
      j8 h4
    else
      gF h4 b0 9 fun z16 =>
      cI (1) fun z17 =>
      addI z16 z17 fun z18 =>
      remI z18 z6 fun z19 =>
      if z19 = 0 then
        cV (g_X3_shine b0 b1 h4) fun h20 =>
        j8 h20
      else
        j8 h4) fun j2 =>
  if n3 < 0 then
    j2 h
  else
    cI (7) fun z22 =>
    rdI h (b1 + 1) 11 z22 fun z23 =>
    cV (g_X3_moveHands b0 n3.toNat z23 h) fun h24 =>
    j2 h24
def g_X8_pass_l9 (n6 : Int) (x1 : Int) (l9 : Int × Hp → Option (Int × Hp)) (q8 : Int × Hp) : Option (Int × Hp) :=
          if x1 ≤ q8.1 then
            gF q8.2 26 9 fun z12 =>
            some (z12, q8.2)
          else
            gR q8.2 0 1 [3, 9] fun q13 =>
            gR q8.2 0 3 [15, 20] fun q14 =>
            cV (g_X3_live 26 q13 q14 n6 q8.2) fun h15 =>
            addI q8.1 (1) fun z16 =>
            l9 (z16, h15)
def g_X8_pass (x1 : Int) (h : Hp) : Option (Int × Hp) :=
  joinF (fun (a1 : Unit) =>
    cI (-2) fun z3 =>
    some (z3, h)) fun j2 =>
  if x1 < 0 then
    j2 ()
  else
    cI (360) fun z4 =>
    if x1 ≤ z4 then
      gF h 26 7 fun z5 =>
      cP (g_X8_planOrNull z5 h) fun n6 =>
      cI (0) fun z7 =>
      loopF (g_X8_pass_l9 n6 x1) FU (z7, h)
    else
      j2 ()
def g_X8_cell (x1 : Int) (x2 : Int) (x3 : Int) (h : Hp) : Option (Int) :=
  joinF (fun (a1 : Unit) =>
    cI (-2) fun z3 =>
    some z3) fun j2 =>
  if x1 < 0 then
    j2 ()
  else
    gR h 0 1 [3, 9] fun q4 =>
    cP (g_X0_columns q4 h) fun z5 =>
    if z5 ≤ x1 then
      j2 ()
    else
      if x2 < 0 then
        j2 ()
      else
        gR h 0 1 [3, 9] fun q6 =>
        cP (g_X0_rows q6 h) fun z7 =>
        if x2 < z7 then
          gR h 0 1 [3, 9] fun q8 =>
          cP (g_X0_columns q8 h) fun z9 =>
          mulI x2 z9 fun z10 =>
          addI z10 x1 fun z11 =>
          joinF (fun (a12 : Int) =>
            some a12) fun j13 =>
          if x3 = 0 then
            rdI h 27 64 z11 fun z16 =>
            j13 z16
          else
          if x3 = 1 then
            rdI h 28 64 z11 fun z18 =>
            j13 z18
          else
          if x3 = 2 then
            rdI h 29 64 z11 fun z20 =>
            j13 z20
          else
          if x3 = 3 then
            rdI h 30 64 z11 fun z22 =>
            j13 z22
          else
          if x3 = 4 then
            gR h 0 1 [3, 9] fun q24 =>
            rdI h 28 64 z11 fun z25 =>
            rdI h 29 64 z11 fun z26 =>
            cP (g_X0_bearing q24 z25 z26 h) fun z27 =>
            j13 z27
          else
          cI (-2) fun z28 =>
          j13 z28
        else
          j2 ()
def g_X8_isFlag (x1 : Int) (h : Hp) : Option (Int) :=
  joinF (fun (a1 : Int) =>
    retZ a1) fun j2 =>
  joinF (fun (a4 : Unit) =>
    cI (0) fun z6 =>
    j2 z6) fun j5 =>
  if x1 < 0 then
    j5 ()
  else
    gR h 0 1 [3, 9] fun q7 =>
    gF h q7 5 fun z8 =>
    if z8 ≤ x1 then
      j5 ()
    else
      cI (1) fun z9 =>
      j2 z9
def g_X8_flag (x1 : Int) (x2 : Int) (h : Hp) : Option (Int) :=
  cP (g_X8_isFlag x1 h) fun z1 =>
  if z1 = 0 then
    cI (-2) fun z21 =>
    some z21
  else
    joinF (fun (a2 : Int) =>
      some a2) fun j3 =>
    if x2 = 0 then
      rdI h 31 3 x1 fun z6 =>
      cI (-1) fun z7 =>
      if z6 = z7 then
        cI (1) fun z9 =>
        j3 z9
      else
        cI (0) fun z8 =>
        j3 z8
    else
    if x2 = 1 then
      gR h 0 1 [3, 9] fun q11 =>
      rdI h (q11 + 4) 3 x1 fun z12 =>
      j3 z12
    else
    if x2 = 2 then
      gR h 0 1 [3, 9] fun q14 =>
      gR h 0 1 [3, 9] fun q15 =>
      rdI h (q15 + 4) 3 x1 fun z16 =>
      cP (g_X0_firstHeight q14 z16 h) fun z17 =>
      j3 z17
    else
    if x2 = 3 then
      rdI h 31 3 x1 fun z19 =>
      j3 z19
    else
    cI (-2) fun z20 =>
    j3 z20
def g_X3_heights_l7 (b0 : Nat) (h : Hp) (j4 : Int → Option (Int)) (x1 : Int) (l7 : Int × Int → Option (Int)) (q6 : Int × Int) : Option (Int) :=
      if x1 ≤ q6.2 then
        j4 q6.1
      else
        cI (64) fun z10 =>
        if z10 ≤ q6.2 then
          j4 q6.1
        else
          rdI h (b0 + 1) 64 q6.2 fun z11 =>
          addI q6.1 z11 fun z12 =>
          addI q6.2 (1) fun z13 =>
          l7 (z12, z13)
def g_X3_heights (b0 : Nat) (x1 : Int) (h : Hp) : Option (Int) :=
  cI (0) fun z1 =>
  cI (0) fun z2 =>
  joinF (fun (a3 : Int) =>
    some a3) fun j4 =>
  loopF (g_X3_heights_l7 b0 h j4 x1) FU (z1, z2)
def g_X8_sum (x1 : Int) (h : Hp) : Option (Int) :=
  joinF (fun (a1 : Int) =>
    some a1) fun j2 =>
  if x1 = 0 then
    gR h 0 1 [3, 9] fun q5 =>
    cP (g_X0_cells q5 h) fun z6 =>
    cP (g_X3_heights 26 z6 h) fun z7 =>
    j2 z7
  else
  if x1 = 1 then
    gF h 26 10 fun z9 =>
    j2 z9
  else
  if x1 = 2 then
    gF h 26 9 fun z11 =>
    j2 z11
  else
  if x1 = 3 then
    gF h 26 11 fun z13 =>
    j2 z13
  else
  if x1 = 4 then
    gF h 26 12 fun z15 =>
    j2 z15
  else
  if x1 = 5 then
    gF h 26 13 fun z17 =>
    j2 z17
  else
  if x1 = 6 then
    gF h 26 14 fun z19 =>
    j2 z19
  else
  cI (-1) fun z20 =>
  j2 z20
def g_X3_copyFrom (b0 : Nat) (b1 : Nat) (h : Hp) : Option (Hp) :=
  cI (0) fun z1 =>
  cI (0) fun z2 =>
  cI (64) fun z3 =>
  cpI h (b1 + 1) 64 z1 (b0 + 1) 64 z2 z3 fun h4 =>
  cI (0) fun z5 =>
  cI (0) fun z6 =>
  cI (64) fun z7 =>
  cpI h4 (b1 + 2) 64 z5 (b0 + 2) 64 z6 z7 fun h8 =>
  cI (0) fun z9 =>
  cI (0) fun z10 =>
  cI (64) fun z11 =>
  cpI h8 (b1 + 3) 64 z9 (b0 + 3) 64 z10 z11 fun h12 =>
  cI (0) fun z13 =>
  cI (0) fun z14 =>
  cI (64) fun z15 =>
  cpI h12 (b1 + 4) 64 z13 (b0 + 4) 64 z14 z15 fun h16 =>
  cI (0) fun z17 =>
  cI (0) fun z18 =>
  cI (3) fun z19 =>
  cpI h16 (b1 + 5) 3 z17 (b0 + 5) 3 z18 z19 fun h20 =>
  cI (0) fun z21 =>
  cI (0) fun z22 =>
  cI (4) fun z23 =>
  cpI h20 (b1 + 6) 4 z21 (b0 + 6) 4 z22 z23 fun h24 =>
  cI (0) fun z25 =>
  cI (0) fun z26 =>
  cI (4) fun z27 =>
  cpI h24 (b1 + 7) 4 z25 (b0 + 7) 4 z26 z27 fun h28 =>
  gF h28 b1 7 fun z29 =>
  pF h28 b0 7 z29 fun h30 =>
  gF h30 b1 8 fun z31 =>
  pF h30 b0 8 z31 fun h32 =>
  gF h32 b1 9 fun z33 =>
  pF h32 b0 9 z33 fun h34 =>
  gF h34 b1 10 fun z35 =>
  pF h34 b0 10 z35 fun h36 =>
  gF h36 b1 11 fun z37 =>
  pF h36 b0 11 z37 fun h38 =>
  gF h38 b1 12 fun z39 =>
  pF h38 b0 12 z39 fun h40 =>
  gF h40 b1 13 fun z41 =>
  pF h40 b0 13 z41 fun h42 =>
  gF h42 b1 14 fun z43 =>
  pF h42 b0 14 z43 fun h44 =>
  gF h44 b1 15 fun z45 =>
  pZ h44 b0 15 z45 fun h46 =>
  some h46
def g_X8_keep (x1 : Int) (h : Hp) : Option (Int × Hp) :=
  joinF (fun (a1 : Unit) =>
    cI (-2) fun z3 =>
    some (z3, h)) fun j2 =>
  if x1 < 0 then
    j2 ()
  else
    cI (3) fun z4 =>
    if x1 < z4 then
      rdQ 3 76 8 x1 fun q5 =>
      cV (g_X3_copyFrom q5 26 h) fun h6 =>
      cI (1) fun z7 =>
      wrZ h6 35 3 x1 z7 fun h8 =>
      gF h8 26 9 fun z9 =>
      some (z9, h8)
    else
      j2 ()
def g_X8_take (x1 : Int) (h : Hp) : Option (Int × Hp) :=
  joinF (fun (a1 : Unit) =>
    cI (-2) fun z3 =>
    some (z3, h)) fun j2 =>
  if x1 < 0 then
    j2 ()
  else
    cI (3) fun z4 =>
    if x1 < z4 then
      rdI h 35 3 x1 fun z5 =>
      if z5 = 0 then
        cI (-4) fun z9 =>
        some (z9, h)
      else
        rdQ 3 76 8 x1 fun q6 =>
        cV (g_X3_copyFrom 26 q6 h) fun h7 =>
        gF h7 26 9 fun z8 =>
        some (z8, h7)
    else
      j2 ()
def g_X8_isSand (x1 : Int) (x2 : Int) : Option (Int) :=
  joinF (fun (a1 : Int) =>
    retZ a1) fun j2 =>
  joinF (fun (a4 : Unit) =>
    cI (0) fun z6 =>
    j2 z6) fun j5 =>
  if x1 < 0 then
    j5 ()
  else
    cI (16) fun z7 =>
    if z7 < x1 then
      j5 ()
    else
      if x2 < 0 then
        j5 ()
      else
        cI (4) fun z8 =>
        if z8 < x2 then
          j5 ()
        else
          cI (1) fun z9 =>
          j2 z9
def g_X8_holds (x1 : Int) (x2 : Int) (h : Hp) : Option (Int) :=
  cP (g_X8_isSand x1 x2) fun z1 =>
  joinF (fun (a2 : Int) =>
    some a2) fun j3 =>
  if z1 = 0 then
    cI (-2) fun z5 =>
    j3 z5
  else
    gR h 0 1 [3, 9] fun q6 =>
    cP (g_X0_bearing q6 x1 x2 h) fun z7 =>
    j3 z7
def g_X8_high (x1 : Int) (x2 : Int) (x3 : Int) (h : Hp) : Option (Int) :=
  cI (1) fun z1 =>
  joinF (fun (a2 : Unit) =>
    cI (-2) fun z4 =>
    some z4) fun j3 =>
  if x1 < z1 then
    j3 ()
  else
    cI (40) fun z5 =>
    if z5 < x1 then
      j3 ()
    else
      cP (g_X8_isSand x2 x3) fun z6 =>
      if z6 = 0 then
        j3 ()
      else
        gR h 0 1 [3, 9] fun q7 =>
        cP (g_X0_bearing q7 x2 x3 h) fun z8 =>
        cI (1) fun z9 =>
        addI x1 z9 fun z10 =>
        cI (2) fun z11 =>
        divI z10 z11 fun z12 =>
        mulI z8 z12 fun z13 =>
        some z13
def g_X4_lowestBeside (b0 : Nat) (x1 : Int) (h : Hp) : Option (Int) :=
  if 0 < x1 then
    cI (8) fun z1 =>
    if x1 < z1 then
      cI (1) fun z2 =>
      addI x1 z2 fun z3 =>
      rdI h (b0 + 1) 9 z3 fun z4 =>
      cI (1) fun z5 =>
      subI x1 z5 fun z6 =>
      rdI h (b0 + 1) 9 z6 fun z7 =>
      joinF (fun (a8 : Int) =>
        some a8) fun j9 =>
      if z7 ≤ z4 then
        cI (1) fun z11 =>
        subI x1 z11 fun z12 =>
        j9 z12
      else
        cI (1) fun z13 =>
        addI x1 z13 fun z14 =>
        j9 z14
    else
      cI (7) fun z15 =>
      some z15
  else
    cI (1) fun z16 =>
    some z16
def g_X4_settle_l24 (b0 : Nat) (j19 : Int × Hp → Option (Hp)) (x2 : Int) (l24 : Int × Int × Hp → Option (Hp)) (q23 : Int × Int × Hp) : Option (Hp) :=
              cI (9) fun z28 =>
              if z28 ≤ q23.2.1 then
                j19 (q23.1, q23.2.2)
              else
                cP (g_X4_lowestBeside b0 q23.2.1 q23.2.2) fun z29 =>
                rdI q23.2.2 (b0 + 1) 9 q23.2.1 fun z30 =>
                rdI q23.2.2 (b0 + 1) 9 z29 fun z31 =>
                subI z30 z31 fun z32 =>
                joinF (fun (a33 : Int × Hp) =>
                  addI q23.2.1 (1) fun z37 =>
                  l24 (a33.1, z37, a33.2)) fun j34 =>
                if z32 ≤ x2 then
                  j34 (q23.1, q23.2.2)
                else
                  rdI q23.2.2 (b0 + 1) 9 q23.2.1 fun z38 =>
                  cI (1) fun z39 =>
                  subI z38 z39 fun z40 =>
                  wrI q23.2.2 (b0 + 1) 9 q23.2.1 z40 fun h41 =>
                  rdI h41 (b0 + 1) 9 z29 fun z42 =>
                  cI (1) fun z43 =>
                  addI z42 z43 fun z44 =>
                  wrI h41 (b0 + 1) 9 z29 z44 fun h45 =>
                  cI (1) fun z46 =>
                  j34 (z46, h45)
def g_X4_settle_l11 (b0 : Nat) (j8 : Hp → Option (Hp)) (x2 : Int) (l11 : Int × Int × Hp → Option (Hp)) (q10 : Int × Int × Hp) : Option (Hp) :=
      cI (2000) fun z15 =>
      if z15 ≤ q10.2.1 then
        j8 q10.2.2
      else
        if q10.1 = 0 then
          j8 q10.2.2
        else
          cI (0) fun z16 =>
          cI (0) fun z17 =>
          joinF (fun (a18 : Int × Hp) =>
            addI q10.2.1 (1) fun z22 =>
            l11 (a18.1, z22, a18.2)) fun j19 =>
          loopF (g_X4_settle_l24 b0 j19 x2) FU (z16, z17, q10.2.2)
def g_X4_settle (b0 : Nat) (x1 : Int) (x2 : Int) (h : Hp) : Option (Hp) :=
  cI (0) fun z1 =>
  cV (g_J7_fill_53178 (b0 + 1) 9 z1 h) fun h2 =>
  cI (4) fun z3 =>
  wrI h2 (b0 + 1) 9 z3 x1 fun h4 =>
  cI (1) fun z5 =>
  cI (0) fun z6 =>
  joinF (fun (a7 : Hp) =>
    some a7) fun j8 =>
  loopF (g_X4_settle_l11 b0 j8 x2) FU (z5, z6, h4)
def g_X8_spill (x1 : Int) (x2 : Int) (x3 : Int) (x4 : Int) (h : Hp) : Option (Int × Hp) :=
  joinF (fun (a1 : Unit) =>
    cI (-2) fun z3 =>
    some (z3, h)) fun j2 =>
  if x1 < 0 then
    j2 ()
  else
    cI (60) fun z4 =>
    if z4 < x1 then
      j2 ()
    else
      cP (g_X8_isSand x2 x3) fun z5 =>
      if z5 = 0 then
        j2 ()
      else
        if x4 < 0 then
          j2 ()
        else
          cI (9) fun z6 =>
          if x4 < z6 then
            gR h 0 1 [3, 9] fun q7 =>
            cP (g_X0_bearing q7 x2 x3 h) fun z8 =>
            cV (g_X4_settle 59 x1 z8 h) fun h9 =>
            rdI h9 60 9 x4 fun z10 =>
            some (z10, h9)
          else
            j2 ()
def g_X7_isNextStep (b0 : Nat) (x1 : Int) (h : Hp) : Option (Int) :=
  gF h b0 2 fun z1 =>
  joinF (fun (a2 : Int) =>
    retZ a2) fun j3 =>
  joinF (fun (a5 : Unit) =>
    cI (0) fun z7 =>
    j3 z7) fun j6 =>
  if x1 < z1 then
    j6 ()
  else
    cI (999) fun z8 =>
    if z8 < x1 then
      j6 ()
    else
      cI (1) fun z9 =>
      j3 z9
def g_X8_isAnswer (x1 : Int) : Option (Int) :=
  joinF (fun (a1 : Int) =>
    retZ a1) fun j2 =>
  joinF (fun (a4 : Unit) =>
    cI (1) fun z6 =>
    j2 z6) fun j5 =>
  if x1 = 0 then
    j5 ()
  else
    cI (1) fun z7 =>
    if x1 = z7 then
      j5 ()
    else
      cI (0) fun z8 =>
      j2 z8
def g_X7_tell (b0 : Nat) (x1 : Int) (x2 : Int) (x3 : Int) (x4 : Int) (h : Hp) : Option (Int × Hp) :=
  gF h b0 0 fun z1 =>
  cI (16) fun z2 =>
  if z1 < z2 then
    gF h b0 0 fun z3 =>
    wrI h (b0 + 1) 16 z3 x1 fun h4 =>
    gF h4 b0 0 fun z5 =>
    wrI h4 (b0 + 2) 16 z5 x2 fun h6 =>
    gF h6 b0 0 fun z7 =>
    wrI h6 (b0 + 3) 16 z7 x3 fun h8 =>
    gF h8 b0 0 fun z9 =>
    wrI h8 (b0 + 4) 16 z9 x4 fun h10 =>
    pF h10 b0 2 x1 fun h11 =>
    gF h11 b0 0 fun z12 =>
    cI (1) fun z13 =>
    addI z12 z13 fun z14 =>
    pF h11 b0 0 z14 fun h15 =>
    gF h15 b0 0 fun z16 =>
    cI (1) fun z17 =>
    subI z16 z17 fun z18 =>
    some (z18, h15)
  else
    cI (-3) fun z19 =>
    some (z19, h)
def g_X8_trial (x1 : Int) (x2 : Int) (x3 : Int) (x4 : Int) (h : Hp) : Option (Int × Hp) :=
  cP (g_X7_isNextStep 36 x1 h) fun z1 =>
  joinF (fun (a2 : Int) =>
    if a2 = 0 then
      cI (-2) fun z10 =>
      some (z10, h)
    else
      gF h 36 0 fun z5 =>
      cI (16) fun z6 =>
      if z5 < z6 then
        cW (g_X7_tell 36 x1 x2 x3 x4 h) fun z7 h8 =>
        some (z7, h8)
      else
        cI (-3) fun z9 =>
        some (z9, h)) fun j3 =>
  joinF (fun (a11 : Unit) =>
    cI (0) fun z13 =>
    j3 z13) fun j12 =>
  if z1 = 0 then
    j12 ()
  else
    cI (1) fun z14 =>
    if x2 < z14 then
      j12 ()
    else
      cI (15) fun z15 =>
      if z15 < x2 then
        j12 ()
      else
        cI (1) fun z16 =>
        if x3 < z16 then
          j12 ()
        else
          cI (30) fun z17 =>
          if z17 < x3 then
            j12 ()
          else
            cP (g_X8_isAnswer x4) fun z18 =>
            if z18 = 0 then
              j12 ()
            else
              cI (1) fun z19 =>
              j3 z19
def g_X7_putRight_l17 (b0 : Nat) (h13 : Hp) (x2 : Int) (l17 : Int × Int → Option (Int × Hp)) (q16 : Int × Int) : Option (Int × Hp) :=
        gF h13 b0 1 fun z20 =>
        if z20 ≤ q16.2 then
          some (q16.1, h13)
        else
          rdI h13 (b0 + 6) 20 q16.2 fun z21 =>
          joinF (fun (a22 : Int) =>
            addI q16.1 a22 fun z25 =>
            addI q16.2 (1) fun z26 =>
            l17 (z25, z26)) fun j23 =>
          if z21 = x2 then
            cI (1) fun z28 =>
            j23 z28
          else
            cI (0) fun z27 =>
            j23 z27
def g_X7_putRight (b0 : Nat) (x1 : Int) (x2 : Int) (x3 : Int) (h : Hp) : Option (Int × Hp) :=
  gF h b0 1 fun z1 =>
  cI (20) fun z2 =>
  if z1 < z2 then
    gF h b0 1 fun z3 =>
    wrI h (b0 + 5) 20 z3 x1 fun h4 =>
    gF h4 b0 1 fun z5 =>
    wrI h4 (b0 + 6) 20 z5 x2 fun h6 =>
    gF h6 b0 1 fun z7 =>
    wrI h6 (b0 + 7) 20 z7 x3 fun h8 =>
    pF h8 b0 2 x1 fun h9 =>
    gF h9 b0 1 fun z10 =>
    cI (1) fun z11 =>
    addI z10 z11 fun z12 =>
    pF h9 b0 1 z12 fun h13 =>
    cI (0) fun z14 =>
    cI (0) fun z15 =>
    loopF (g_X7_putRight_l17 b0 h13 x2) FU (z14, z15)
  else
    cI (-3) fun z29 =>
    some (z29, h)
def g_X8_right (x1 : Int) (x2 : Int) (x3 : Int) (h : Hp) : Option (Int × Hp) :=
  cP (g_X7_isNextStep 36 x1 h) fun z1 =>
  joinF (fun (a2 : Unit) =>
    cI (-2) fun z4 =>
    some (z4, h)) fun j3 =>
  if z1 = 0 then
    j3 ()
  else
    if x2 < 0 then
      j3 ()
    else
      gF h 36 0 fun z5 =>
      if z5 ≤ x2 then
        j3 ()
      else
        cP (g_X8_isAnswer x3) fun z6 =>
        if z6 = 0 then
          j3 ()
        else
          gF h 36 1 fun z7 =>
          cI (20) fun z8 =>
          if z7 < z8 then
            cW (g_X7_putRight 36 x1 x2 x3 h) fun z9 h10 =>
            some (z9, h10)
          else
            cI (-3) fun z11 =>
            some (z11, h)
def g_X7_lookBackTo_l7 (b0 : Nat) (x1 : Int) (l7 : Int × Hp → Option (Hp)) (q6 : Int × Hp) : Option (Hp) :=
        gF q6.2 b0 1 fun z10 =>
        if z10 ≤ q6.1 then
          some q6.2
        else
          rdI q6.2 (b0 + 5) 20 q6.1 fun z11 =>
          joinF (fun (a12 : Hp) =>
            addI q6.1 (1) fun z15 =>
            l7 (z15, a12)) fun j13 =>
          if x1 < z11 then
            j13 q6.2
          else
            rdI q6.2 (b0 + 6) 20 q6.1 fun z16 =>
            cI (16) fun z17 =>
            if z17 ≤ z16 then
              j13 q6.2
            else
              rdI q6.2 (b0 + 6) 20 q6.1 fun z18 =>
              rdI q6.2 (b0 + 7) 20 q6.1 fun z19 =>
              wrI q6.2 (b0 + 8) 16 z18 z19 fun h20 =>
              j13 h20
def g_X7_lookBackTo_l22 (b0 : Nat) (j3 : Hp → Option (Hp)) (x1 : Int) (l22 : Int × Hp → Option (Hp)) (q21 : Int × Hp) : Option (Hp) :=
      gF q21.2 b0 0 fun z25 =>
      if z25 ≤ q21.1 then
        j3 q21.2
      else
        rdI q21.2 (b0 + 1) 16 q21.1 fun z26 =>
        joinF (fun (a27 : Int) =>
          wrI q21.2 (b0 + 8) 16 q21.1 a27 fun h30 =>
          addI q21.1 (1) fun z31 =>
          l22 (z31, h30)) fun j28 =>
        if x1 < z26 then
          cI (-1) fun z32 =>
          j28 z32
        else
          rdI q21.2 (b0 + 4) 16 q21.1 fun z33 =>
          j28 z33
def g_X7_lookBackTo (b0 : Nat) (x1 : Int) (h : Hp) : Option (Hp) :=
  cI (0) fun z1 =>
  joinF (fun (a2 : Hp) =>
    cI (0) fun z5 =>
    loopF (g_X7_lookBackTo_l7 b0 x1) FU (z5, a2)) fun j3 =>
  loopF (g_X7_lookBackTo_l22 b0 j3 x1) FU (z1, h)
def g_X7_fits_l3 (b0 : Nat) (h : Hp) (x1 : Int) (x2 : Int) (x3 : Int) (l3 : Int → Option (Int)) (q2 : Int) : Option (Int) :=
      gF h b0 0 fun z5 =>
      if z5 ≤ q2 then
        cI (1) fun z6 =>
        retZ z6
      else
        rdI h (b0 + 3) 16 q2 fun z7 =>
        cI (1) fun z8 =>
        rdI h (b0 + 2) 16 q2 fun z9 =>
        cP (g_X8_strengthOf z9 x1 x2 x3) fun z10 =>
        addI z8 z10 fun z11 =>
        joinF (fun (a12 : Int) =>
          rdI h (b0 + 8) 16 q2 fun z15 =>
          cI (-1) fun z16 =>
          joinF (fun (a17 : Unit) =>
            addI q2 (1) fun z19 =>
            l3 z19) fun j18 =>
          if z15 = z16 then
            j18 ()
          else
            rdI h (b0 + 8) 16 q2 fun z20 =>
            if z20 = a12 then
              j18 ()
            else
              cI (0) fun z21 =>
              retZ z21) fun j13 =>
        if z11 < z7 then
          cI (0) fun z22 =>
          j13 z22
        else
          cI (1) fun z23 =>
          j13 z23
def g_X7_fits (b0 : Nat) (x1 : Int) (x2 : Int) (x3 : Int) (h : Hp) : Option (Int) :=
  cI (0) fun z1 =>
  loopF (g_X7_fits_l3 b0 h x1 x2 x3) FU z1
def g_X7_howManyFit_l4 (b0 : Nat) (h : Hp) (x1 : Int) (x2 : Int) (l4 : Int × Int → Option (Int)) (q3 : Int × Int) : Option (Int) :=
      cI (5) fun z7 =>
      if z7 < q3.2 then
        some q3.1
      else
        cP (g_X7_fits b0 x1 x2 q3.2 h) fun z8 =>
        joinF (fun (a9 : Int) =>
          addI q3.1 a9 fun z12 =>
          addI q3.2 (1) fun z13 =>
          l4 (z12, z13)) fun j10 =>
        if z8 = 0 then
          cI (0) fun z14 =>
          j10 z14
        else
          cI (1) fun z15 =>
          j10 z15
def g_X7_howManyFit (b0 : Nat) (x1 : Int) (x2 : Int) (h : Hp) : Option (Int) :=
  cI (0) fun z1 =>
  cI (1) fun z2 =>
  loopF (g_X7_howManyFit_l4 b0 h x1 x2) FU (z1, z2)
def g_X7_ofHumps_l41 (b0 : Nat) (h1 : Hp) (j33 : Int × Int × Int × Int × Int → Option (Int × Hp)) (q22 : Int × Int × Int × Int × Int × Int) (l41 : Int × Int × Int × Int × Int × Int → Option (Int × Hp)) (q40 : Int × Int × Int × Int × Int × Int) : Option (Int × Hp) :=
            cI (20) fun z48 =>
            if z48 < q40.2.2.2.2.2 then
              j33 (q40.1, q40.2.1, q40.2.2.1, q40.2.2.2.1, q40.2.2.2.2.1)
            else
              cP (g_X7_howManyFit b0 q22.2.2.2.2.2 q40.2.2.2.2.2 h1) fun z49 =>
              joinF (fun (a50 : Int × Int × Int × Int × Int) =>
                addI q40.2.2.2.2.2 (1) fun z57 =>
                l41 (a50.1, a50.2.1, a50.2.2.1, a50.2.2.2.1, a50.2.2.2.2, z57)) fun j51 =>
              if z49 ≤ 0 then
                j51 (q40.1, q40.2.1, q40.2.2.1, q40.2.2.2.1, q40.2.2.2.2.1)
              else
                addI q40.1 z49 fun z58 =>
                cI (-1) fun z59 =>
                joinF (fun (a60 : Int) =>
                  cI (-1) fun z63 =>
                  joinF (fun (a64 : Int) =>
                    maxI q40.2.2.2.2.1 q40.2.2.2.2.2 fun z67 =>
                    j51 (z58, a60, q22.2.2.2.2.2, a64, z67)) fun j65 =>
                  if q40.2.2.2.1 = z63 then
                    j65 q40.2.2.2.2.2
                  else
                    minI q40.2.2.2.1 q40.2.2.2.2.2 fun z68 =>
                    j65 z68) fun j61 =>
                if q40.2.1 = z59 then
                  j61 q22.2.2.2.2.2
                else
                  j61 q40.2.1
def g_X7_ofHumps_l23 (b0 : Nat) (h1 : Hp) (j9 : Int × Int × Int × Int × Int → Option (Int × Hp)) (l23 : Int × Int × Int × Int × Int × Int → Option (Int × Hp)) (q22 : Int × Int × Int × Int × Int × Int) : Option (Int × Hp) :=
      cI (15) fun z30 =>
      if z30 < q22.2.2.2.2.2 then
        j9 (q22.1, q22.2.1, q22.2.2.1, q22.2.2.2.1, q22.2.2.2.2.1)
      else
        cI (0) fun z31 =>
        joinF (fun (a32 : Int × Int × Int × Int × Int) =>
          addI q22.2.2.2.2.2 (1) fun z39 =>
          l23 (a32.1, a32.2.1, a32.2.2.1, a32.2.2.2.1, a32.2.2.2.2, z39)) fun j33 =>
        loopF (g_X7_ofHumps_l41 b0 h1 j33 q22) FU (q22.1, q22.2.1, q22.2.2.1, q22.2.2.2.1, q22.2.2.2.2.1, z31)
def g_X7_ofHumps (b0 : Nat) (x1 : Int) (x2 : Int) (h : Hp) : Option (Int × Hp) :=
  cV (g_X7_lookBackTo b0 x1 h) fun h1 =>
  cI (0) fun z2 =>
  cI (-1) fun z3 =>
  cI (-1) fun z4 =>
  cI (-1) fun z5 =>
  cI (-1) fun z6 =>
  cI (1) fun z7 =>
  joinF (fun (a8 : Int × Int × Int × Int × Int) =>
    joinF (fun (a15 : Int) =>
      some (a15, h1)) fun j16 =>
    if x2 = 0 then
      j16 a8.1
    else
    if x2 = 1 then
      j16 a8.2.1
    else
    if x2 = 2 then
      j16 a8.2.2.1
    else
    if x2 = 3 then
      j16 a8.2.2.2.1
    else
    j16 a8.2.2.2.2) fun j9 =>
  loopF (g_X7_ofHumps_l23 b0 h1 j9) FU (z2, z3, z4, z5, z6, z7)
def g_X8_humps (x1 : Int) (x2 : Int) (h : Hp) : Option (Int × Hp) :=
  joinF (fun (a1 : Unit) =>
    cI (-2) fun z3 =>
    some (z3, h)) fun j2 =>
  if x1 < 0 then
    j2 ()
  else
    cI (999) fun z4 =>
    if z4 < x1 then
      j2 ()
    else
      if x2 < 0 then
        j2 ()
      else
        cI (4) fun z5 =>
        if x2 ≤ z5 then
          cW (g_X7_ofHumps 36 x1 x2 h) fun z6 h7 =>
          some (z6, h7)
        else
          j2 ()
def g_X7_tallyHump_l3 (b0 : Nat) (x1 : Int) (x2 : Int) (x3 : Int) (l3 : Int × Hp → Option (Hp)) (q2 : Int × Hp) : Option (Hp) :=
      cI (16) fun z6 =>
      if z6 ≤ q2.1 then
        some q2.2
      else
        cI (21) fun z7 =>
        mulI q2.1 z7 fun z8 =>
        cP (g_X8_strengthOf q2.1 x1 x2 x3) fun z9 =>
        addI z8 z9 fun z10 =>
        rdI q2.2 (b0 + 9) 336 z10 fun z11 =>
        cI (1) fun z12 =>
        addI z11 z12 fun z13 =>
        wrI q2.2 (b0 + 9) 336 z10 z13 fun h14 =>
        addI q2.1 (1) fun z15 =>
        l3 (z15, h14)
def g_X7_tallyHump (b0 : Nat) (x1 : Int) (x2 : Int) (x3 : Int) (h : Hp) : Option (Hp) :=
  cI (1) fun z1 =>
  loopF (g_X7_tallyHump_l3 b0 x1 x2 x3) FU (z1, h)
def g_X7_tallyAll_l32 (b0 : Nat) (j27 : Int × Hp → Option (Int × Hp)) (q7 : Int × Int × Hp) (q19 : Int × Int × Hp) (l32 : Int × Int × Hp → Option (Int × Hp)) (q31 : Int × Int × Hp) : Option (Int × Hp) :=
                  cI (5) fun z36 =>
                  if z36 < q31.2.1 then
                    j27 (q31.1, q31.2.2)
                  else
                    cP (g_X7_fits b0 q7.2.1 q19.2.1 q31.2.1 q31.2.2) fun z37 =>
                    joinF (fun (a38 : Int × Hp) =>
                      addI q31.2.1 (1) fun z42 =>
                      l32 (a38.1, z42, a38.2)) fun j39 =>
                    if z37 = 0 then
                      j39 (q31.1, q31.2.2)
                    else
                      addI q31.1 (1) fun z43 =>
                      cV (g_X7_tallyHump b0 q7.2.1 q19.2.1 q31.2.1 q31.2.2) fun h44 =>
                      j39 (z43, h44)
def g_X7_tallyAll_l20 (b0 : Nat) (j15 : Int × Hp → Option (Int × Hp)) (q7 : Int × Int × Hp) (l20 : Int × Int × Hp → Option (Int × Hp)) (q19 : Int × Int × Hp) : Option (Int × Hp) :=
            cI (20) fun z24 =>
            if z24 < q19.2.1 then
              j15 (q19.1, q19.2.2)
            else
              cI (1) fun z25 =>
              joinF (fun (a26 : Int × Hp) =>
                addI q19.2.1 (1) fun z30 =>
                l20 (a26.1, z30, a26.2)) fun j27 =>
              loopF (g_X7_tallyAll_l32 b0 j27 q7 q19) FU (q19.1, z25, q19.2.2)
def g_X7_tallyAll_l8 (b0 : Nat) (l8 : Int × Int × Hp → Option (Int × Hp)) (q7 : Int × Int × Hp) : Option (Int × Hp) :=
      cI (15) fun z12 =>
      if z12 < q7.2.1 then
        some (q7.1, q7.2.2)
      else
        cI (0) fun z13 =>
        joinF (fun (a14 : Int × Hp) =>
          addI q7.2.1 (1) fun z18 =>
          l8 (a14.1, z18, a14.2)) fun j15 =>
        loopF (g_X7_tallyAll_l20 b0 j15 q7) FU (q7.1, z13, q7.2.2)
def g_X7_tallyAll (b0 : Nat) (h : Hp) : Option (Int × Hp) :=
  cI (999) fun z1 =>
  cV (g_X7_lookBackTo b0 z1 h) fun h2 =>
  cI (0) fun z3 =>
  cV (g_J7_fill_53178 (b0 + 9) 336 z3 h2) fun h4 =>
  cI (0) fun z5 =>
  cI (1) fun z6 =>
  loopF (g_X7_tallyAll_l8 b0) FU (z5, z6, h4)
def g_X7_weakerBy (b0 : Nat) (x1 : Int) (x2 : Int) (h : Hp) : Option (Int) :=
  cI (2) fun z1 =>
  subI x2 z1 fun z2 =>
  joinF (fun (a3 : Int) =>
    some a3) fun j4 =>
  joinF (fun (a6 : Unit) =>
    cI (0) fun z8 =>
    j4 z8) fun j7 =>
  if z2 < 0 then
    j7 ()
  else
    cI (21) fun z9 =>
    if z9 ≤ z2 then
      j7 ()
    else
      cI (21) fun z10 =>
      mulI x1 z10 fun z11 =>
      addI z11 z2 fun z12 =>
      rdI h (b0 + 9) 336 z12 fun z13 =>
      j4 z13
def g_X7_bestQuestion_l18 (b0 : Nat) (h2 : Hp) (j13 : Int × Int → Option (Int × Hp)) (q5 : Int × Int × Int) (z1 : Int) (l18 : Int × Int × Int × Int → Option (Int × Hp)) (q17 : Int × Int × Int × Int) : Option (Int × Hp) :=
            cI (30) fun z23 =>
            if z23 < q17.2.2.2 then
              j13 (q17.1, q17.2.1)
            else
              cP (g_X7_weakerBy b0 q5.2.2 q17.2.2.2 h2) fun z24 =>
              subI q17.2.2.1 z24 fun z25 =>
              subI z1 z25 fun z26 =>
              maxI z25 z26 fun z27 =>
              joinF (fun (a28 : Int × Int) =>
                addI q17.2.2.2 (1) fun z32 =>
                l18 (a28.1, a28.2, z25, z32)) fun j29 =>
              if q17.1 ≤ z27 then
                j29 (q17.1, q17.2.1)
              else
                cI (100) fun z33 =>
                mulI z33 q5.2.2 fun z34 =>
                addI z34 q17.2.2.2 fun z35 =>
                j29 (z27, z35)
def g_X7_bestQuestion_l6 (b0 : Nat) (h2 : Hp) (z1 : Int) (l6 : Int × Int × Int → Option (Int × Hp)) (q5 : Int × Int × Int) : Option (Int × Hp) :=
      cI (16) fun z10 =>
      if z10 ≤ q5.2.2 then
        some (q5.2.1, h2)
      else
        cI (1) fun z11 =>
        joinF (fun (a12 : Int × Int) =>
          addI q5.2.2 (1) fun z16 =>
          l6 (a12.1, a12.2, z16)) fun j13 =>
        loopF (g_X7_bestQuestion_l18 b0 h2 j13 q5 z1) FU (q5.1, q5.2.1, z1, z11)
def g_X7_bestQuestion (b0 : Nat) (h : Hp) : Option (Int × Hp) :=
  cW (g_X7_tallyAll b0 h) fun z1 h2 =>
  cI (-1) fun z3 =>
  cI (1) fun z4 =>
  loopF (g_X7_bestQuestion_l6 b0 h2 z1) FU (z1, z3, z4)
def g_X8_next (h : Hp) : Option (Int × Hp) :=
  cW (g_X7_bestQuestion 36 h) fun z1 h2 =>
  some (z1, h2)
def g_X8_isSpan (x1 : Int) : Option (Int) :=
  cI (1) fun z1 =>
  joinF (fun (a2 : Int) =>
    retZ a2) fun j3 =>
  joinF (fun (a5 : Unit) =>
    cI (0) fun z7 =>
    j3 z7) fun j6 =>
  if x1 < z1 then
    j6 ()
  else
    cI (99) fun z8 =>
    if z8 < x1 then
      j6 ()
    else
      cI (1) fun z9 =>
      j3 z9
def g_X6_start (b0 : Nat) (b1 : Nat) (x2 : Int) (x3 : Int) (h : Hp) : Option (Hp) :=
  cV (g_X3_copyFrom (b0 + 1) b1 h) fun h1 =>
  cV (g_X3_hold (b0 + 1) x2 h1) fun h2 =>
  pF h2 (b0 + 1) 8 x3 fun h3 =>
  cI (-1) fun z4 =>
  cV (g_J7_fill_53178 (b0 + 12) 99 z4 h3) fun h5 =>
  cI (0) fun z6 =>
  pF h5 b0 5 z6 fun h7 =>
  some h7
def g_X6_watch (b0 : Nat) (x1 : Int) (x2 : Int) (h : Hp) : Option (Hp) :=
  gF h b0 5 fun z1 =>
  cI (2) fun z2 =>
  joinF (fun (a3 : Hp) =>
    some a3) fun j4 =>
  if z2 ≤ z1 then
    j4 h
  else
    gF h b0 5 fun z6 =>
    wrI h (b0 + 10) 2 z6 x1 fun h7 =>
    gF h7 b0 5 fun z8 =>
    wrI h7 (b0 + 11) 2 z8 x2 fun h9 =>
    gF h9 b0 5 fun z10 =>
    cI (1) fun z11 =>
    addI z10 z11 fun z12 =>
    pF h9 b0 5 z12 fun h13 =>
    j4 h13
def g_X6_watchFlag (b0 : Nat) (b1 : Nat) (x2 : Int) (h : Hp) : Option (Hp) :=
  rdI h (b1 + 4) 3 x2 fun z1 =>
  rdI h (b0 + 6) 3 x2 fun z2 =>
  cI (-1) fun z3 =>
  joinF (fun (a4 : Int) =>
    joinF (fun (a7 : Int) =>
      cV (g_X6_watch b0 z1 a7 h) fun h10 =>
      some h10) fun j8 =>
    if a4 = 0 then
      cP (g_X0_firstHeight b1 z1 h) fun z11 =>
      cP (g_X0_fall b1 h) fun z12 =>
      subI z11 z12 fun z13 =>
      j8 z13
    else
      cI (2147483647) fun z14 =>
      j8 z14) fun j5 =>
  if z2 = z3 then
    cI (0) fun z15 =>
    j5 z15
  else
    cI (1) fun z16 =>
    j5 z16
def g_X6_doWork (b0 : Nat) (b1 : Nat) (x2 : Int) (h : Hp) : Option (Hp) :=
  cI (0) fun z1 =>
  rdI h (b0 + 10) 2 z1 fun z2 =>
  cP (g_X0_columns b1 h) fun z3 =>
  subI z2 z3 fun z4 =>
  cP (g_X0_columns b1 h) fun z5 =>
  addI z2 z5 fun z6 =>
  cI (3) fun z7 =>
  joinF (fun (a8 : Hp) =>
    some a8) fun j9 =>
  if x2 = z7 then
    cI (2) fun z25 =>
    cI (-1) fun z26 =>
    cV (g_X3_perform (b0 + 1) z25 z2 z26 h) fun h27 =>
    j9 h27
  else
    cI (2) fun z11 =>
    joinF (fun (a12 : Unit) =>
      cI (1) fun z14 =>
      joinF (fun (a15 : Unit) =>
        if x2 = 0 then
          if z4 < 0 then
            j9 h
          else
            cI (3) fun z17 =>
            cI (-1) fun z18 =>
            cV (g_X3_perform (b0 + 1) z17 z4 z18 h) fun h19 =>
            j9 h19
        else
          j9 h) fun j16 =>
      if x2 = z14 then
        if z4 < 0 then
          j16 ()
        else
          cI (0) fun z20 =>
          cV (g_X3_perform (b0 + 1) z20 z4 z2 h) fun h21 =>
          j9 h21
      else
        j16 ()) fun j13 =>
    if x2 = z11 then
      cP (g_X0_cells b1 h) fun z22 =>
      if z22 ≤ z6 then
        j13 ()
      else
        cI (0) fun z23 =>
        cV (g_X3_perform (b0 + 1) z23 z6 z2 h) fun h24 =>
        j9 h24
    else
      j13 ()
def g_X6_lookAtFlags_l3 (b0 : Nat) (x1 : Int) (l3 : Int × Hp → Option (Hp)) (q2 : Int × Hp) : Option (Hp) :=
      gF q2.2 b0 5 fun z6 =>
      if z6 ≤ q2.1 then
        some q2.2
      else
        rdI q2.2 (b0 + 9) 2 q2.1 fun z7 =>
        cI (-1) fun z8 =>
        joinF (fun (a9 : Hp) =>
          addI q2.1 (1) fun z12 =>
          l3 (z12, a9)) fun j10 =>
        if z7 = z8 then
          rdI q2.2 (b0 + 10) 2 q2.1 fun z13 =>
          rdI q2.2 (b0 + 2) 64 z13 fun z14 =>
          rdI q2.2 (b0 + 11) 2 q2.1 fun z15 =>
          if z15 ≤ z14 then
            j10 q2.2
          else
            wrI q2.2 (b0 + 9) 2 q2.1 x1 fun h16 =>
            gF h16 b0 6 fun z17 =>
            cI (1) fun z18 =>
            subI z17 z18 fun z19 =>
            pF h16 b0 6 z19 fun h20 =>
            j10 h20
        else
          j10 q2.2
def g_X6_lookAtFlags (b0 : Nat) (x1 : Int) (h : Hp) : Option (Hp) :=
  cI (0) fun z1 =>
  loopF (g_X6_lookAtFlags_l3 b0 x1) FU (z1, h)
def g_X6_run_l13 (b0 : Nat) (x4 : Int) (l13 : Int × Hp → Option (Hp)) (q12 : Int × Hp) : Option (Hp) :=
          gF q12.2 b0 5 fun z16 =>
          if z16 ≤ q12.1 then
            some q12.2
          else
            rdI q12.2 (b0 + 9) 2 q12.1 fun z17 =>
            cI (-1) fun z18 =>
            joinF (fun (a19 : Hp) =>
              addI q12.1 (1) fun z22 =>
              l13 (z22, a19)) fun j20 =>
            if z17 = z18 then
              wrI q12.2 (b0 + 9) 2 q12.1 x4 fun h23 =>
              j20 h23
            else
              j20 q12.2
def g_X6_run_l25 (b0 : Nat) (b1 : Nat) (b2 : Nat) (j9 : Hp → Option (Hp)) (n3 : Int) (x4 : Int) (l25 : Int × Hp → Option (Hp)) (q24 : Int × Hp) : Option (Hp) :=
        if x4 ≤ q24.1 then
          j9 q24.2
        else
          gF q24.2 b0 5 fun z28 =>
          joinF (fun (a29 : Unit) =>
            cI (99) fun z31 =>
            joinF (fun (a32 : Hp) =>
              cV (g_X3_live (b0 + 1) b1 b2 n3 a32) fun h35 =>
              cV (g_X6_lookAtFlags b0 q24.1 h35) fun h36 =>
              addI q24.1 (1) fun z37 =>
              l25 (z37, h36)) fun j33 =>
            if z31 ≤ q24.1 then
              j33 q24.2
            else
              rdI q24.2 (b0 + 12) 99 q24.1 fun z38 =>
              cI (-1) fun z39 =>
              if z38 = z39 then
                j33 q24.2
              else
                rdI q24.2 (b0 + 12) 99 q24.1 fun z40 =>
                cV (g_X6_doWork b0 b1 z40 q24.2) fun h41 =>
                j33 h41) fun j30 =>
          if z28 = 0 then
            j30 ()
          else
            gF q24.2 b0 6 fun z42 =>
            if z42 ≤ 0 then
              j9 q24.2
            else
              j30 ()
def g_X6_run_l44 (b0 : Nat) (j5 : Hp → Option (Hp)) (l44 : Int × Hp → Option (Hp)) (q43 : Int × Hp) : Option (Hp) :=
      gF q43.2 b0 5 fun z47 =>
      if z47 ≤ q43.1 then
        j5 q43.2
      else
        cI (-1) fun z48 =>
        wrI q43.2 (b0 + 9) 2 q43.1 z48 fun h49 =>
        addI q43.1 (1) fun z50 =>
        l44 (z50, h49)
def g_X6_run (b0 : Nat) (b1 : Nat) (b2 : Nat) (n3 : Int) (x4 : Int) (h : Hp) : Option (Hp) :=
  gF h b0 5 fun z1 =>
  pF h b0 6 z1 fun h2 =>
  cI (0) fun z3 =>
  joinF (fun (a4 : Hp) =>
    cI (0) fun z7 =>
    joinF (fun (a8 : Hp) =>
      cI (0) fun z11 =>
      loopF (g_X6_run_l13 b0 x4) FU (z11, a8)) fun j9 =>
    loopF (g_X6_run_l25 b0 b1 b2 j9 n3 x4) FU (z7, a4)) fun j5 =>
  loopF (g_X6_run_l44 b0 j5) FU (z3, h2)
def g_X8_last (x1 : Int) (x2 : Int) (x3 : Int) (x4 : Int) (h : Hp) : Option (Int × Hp) :=
  cP (g_X8_isFlag x1 h) fun z1 =>
  joinF (fun (a2 : Unit) =>
    cI (-2) fun z4 =>
    some (z4, h)) fun j3 =>
  if z1 = 0 then
    j3 ()
  else
    cP (g_X8_isPlanOrNone x2 h) fun z5 =>
    if z5 = 0 then
      j3 ()
    else
      if x3 < 0 then
        j3 ()
      else
        cP (g_X8_isSpan x4) fun z6 =>
        if z6 = 0 then
          j3 ()
        else
          cV (g_X6_start 46 26 x2 x3 h) fun h7 =>
          gR h7 0 1 [3, 9] fun q8 =>
          cV (g_X6_watchFlag 46 q8 x1 h7) fun h9 =>
          gR h9 0 1 [3, 9] fun q10 =>
          gR h9 0 3 [15, 20] fun q11 =>
          cP (g_X8_planOrNull x2 h9) fun n12 =>
          cV (g_X6_run 46 q10 q11 n12 x4 h9) fun h13 =>
          cI (0) fun z14 =>
          rdI h13 55 2 z14 fun z15 =>
          some (z15, h13)
def g_X6_setWork (b0 : Nat) (x1 : Int) (x2 : Int) (h : Hp) : Option (Hp) :=
  joinF (fun (a1 : Hp) =>
    some a1) fun j2 =>
  if x1 < 0 then
    j2 h
  else
    cI (99) fun z4 =>
    if z4 ≤ x1 then
      j2 h
    else
      wrI h (b0 + 12) 99 x1 x2 fun h5 =>
      j2 h5
def g_X8_bestRow_l16 (a8 : Int × Hp) (l16 : Int × Int → Option (Int × Hp)) (q15 : Int × Int) : Option (Int × Hp) :=
        if q15.2 < 0 then
          some (q15.1, a8.2)
        else
          cI (10) fun z19 =>
          mulI q15.1 z19 fun z20 =>
          cI (2) fun z21 =>
          mulI z21 q15.2 fun z22 =>
          shrI a8.1 z22 fun z23 =>
          cI (3) fun z24 =>
          andI z23 z24 fun z25 =>
          addI z20 z25 fun z26 =>
          addI q15.2 (-1) fun z27 =>
          l16 (z26, z27)
def g_X8_bestRow_l55 (j40 : Hp → Option (Int × Hp)) (q28 : Int × Int × Int × Hp) (x2 : Int) (l55 : Int × Hp → Option (Int × Hp)) (q54 : Int × Hp) : Option (Int × Hp) :=
              if x2 ≤ q54.1 then
                j40 q54.2
              else
                cI (2) fun z58 =>
                cI (1) fun z59 =>
                subI x2 z59 fun z60 =>
                subI z60 q54.1 fun z61 =>
                mulI z58 z61 fun z62 =>
                shrI q28.2.2.1 z62 fun z63 =>
                cI (3) fun z64 =>
                andI z63 z64 fun z65 =>
                cV (g_X6_setWork 46 q54.1 z65 q54.2) fun h66 =>
                addI q54.1 (1) fun z67 =>
                l55 (z67, h66)
def g_X8_bestRow_l29 (j9 : Int × Hp → Option (Int × Hp)) (x1 : Int) (x2 : Int) (x3 : Int) (x4 : Int) (z4 : Int) (l29 : Int × Int × Int × Hp → Option (Int × Hp)) (q28 : Int × Int × Int × Hp) : Option (Int × Hp) :=
      if z4 ≤ q28.2.2.1 then
        j9 (q28.1, q28.2.2.2)
      else
        if x4 ≤ q28.2.1 then
          j9 (q28.1, q28.2.2.2)
        else
          cI (-1) fun z34 =>
          cV (g_X6_start 46 26 z34 x3 q28.2.2.2) fun h35 =>
          gR h35 0 1 [3, 9] fun q36 =>
          cV (g_X6_watchFlag 46 q36 x1 h35) fun h37 =>
          cI (0) fun z38 =>
          joinF (fun (a39 : Hp) =>
            gR a39 0 1 [3, 9] fun q42 =>
            gR a39 0 3 [15, 20] fun q43 =>
            cV (g_X6_run 46 q42 q43 (-1) x4 a39) fun h44 =>
            cI (0) fun z45 =>
            rdI h44 55 2 z45 fun z46 =>
            joinF (fun (a47 : Int × Int) =>
              addI q28.2.2.1 (1) fun z51 =>
              l29 (a47.1, a47.2, z51, h44)) fun j48 =>
            if z46 ≤ q28.2.1 then
              j48 (q28.1, q28.2.1)
            else
              cI (0) fun z52 =>
              rdI h44 55 2 z52 fun z53 =>
              j48 (q28.2.2.1, z53)) fun j40 =>
          loopF (g_X8_bestRow_l55 j40 q28 x2) FU (z38, h37)
def g_X8_bestRow (x1 : Int) (x2 : Int) (x3 : Int) (x4 : Int) (h : Hp) : Option (Int × Hp) :=
  cI (1) fun z1 =>
  cI (2) fun z2 =>
  mulI z2 x2 fun z3 =>
  shlI z1 z3 fun z4 =>
  cI (0) fun z5 =>
  cI (-1) fun z6 =>
  cI (0) fun z7 =>
  joinF (fun (a8 : Int × Hp) =>
    cI (0) fun z12 =>
    cI (1) fun z13 =>
    subI x2 z13 fun z14 =>
    loopF (g_X8_bestRow_l16 a8) FU (z12, z14)) fun j9 =>
  loopF (g_X8_bestRow_l29 j9 x1 x2 x3 x4 z4) FU (z5, z6, z7, h)
def g_X8_pail (x1 : Int) (x2 : Int) (x3 : Int) (h : Hp) : Option (Int × Hp) :=
  cP (g_X8_isFlag x1 h) fun z1 =>
  joinF (fun (a2 : Unit) =>
    cI (-2) fun z4 =>
    some (z4, h)) fun j3 =>
  if z1 = 0 then
    j3 ()
  else
    if x2 < 0 then
      j3 ()
    else
      cP (g_X8_isSpan x3) fun z5 =>
      if z5 = 0 then
        j3 ()
      else
        cI (2) fun z6 =>
        cW (g_X8_bestRow x1 z6 x2 x3 h) fun z7 h8 =>
        some (z7, h8)
def g_X8_row (x1 : Int) (x2 : Int) (x3 : Int) (x4 : Int) (h : Hp) : Option (Int × Hp) :=
  cP (g_X8_isFlag x1 h) fun z1 =>
  joinF (fun (a2 : Unit) =>
    cI (-2) fun z4 =>
    some (z4, h)) fun j3 =>
  if z1 = 0 then
    j3 ()
  else
    cI (1) fun z5 =>
    if x2 < z5 then
      j3 ()
    else
      cI (4) fun z6 =>
      if z6 < x2 then
        j3 ()
      else
        if x3 < 0 then
          j3 ()
        else
          cP (g_X8_isSpan x4) fun z7 =>
          if z7 = 0 then
            j3 ()
          else
            cW (g_X8_bestRow x1 x2 x3 x4 h) fun z8 h9 =>
            some (z8, h9)
def g_X8_again_l22 (j18 : Int × Hp → Option (Int × Hp)) (x1 : Int) (x2 : Int) (x3 : Int) (z14 : Int) (l22 : Int × Int × Int × Hp → Option (Int × Hp)) (q21 : Int × Int × Int × Hp) : Option (Int × Hp) :=
            if z14 < q21.2.2.1 then
              j18 (q21.2.1, q21.2.2.2)
            else
              if x3 ≤ q21.2.2.1 then
                j18 (q21.2.1, q21.2.2.2)
              else
                if x3 ≤ q21.1 then
                  j18 (q21.2.1, q21.2.2.2)
                else
                  cI (-1) fun z27 =>
                  cV (g_X6_start 46 26 z27 x2 q21.2.2.2) fun h28 =>
                  gR h28 0 1 [3, 9] fun q29 =>
                  cV (g_X6_watchFlag 46 q29 x1 h28) fun h30 =>
                  cI (3) fun z31 =>
                  cV (g_X6_setWork 46 q21.2.2.1 z31 h30) fun h32 =>
                  gR h32 0 1 [3, 9] fun q33 =>
                  gR h32 0 3 [15, 20] fun q34 =>
                  cV (g_X6_run 46 q33 q34 (-1) x3 h32) fun h35 =>
                  cI (0) fun z36 =>
                  rdI h35 55 2 z36 fun z37 =>
                  joinF (fun (a38 : Int × Int) =>
                    addI q21.2.2.1 (1) fun z42 =>
                    l22 (a38.1, a38.2, z42, h35)) fun j39 =>
                  if z37 ≤ q21.1 then
                    j39 (q21.1, q21.2.1)
                  else
                    cI (0) fun z43 =>
                    rdI h35 55 2 z43 fun z44 =>
                    j39 (z44, q21.2.2.1)
def g_X8_again (x1 : Int) (x2 : Int) (x3 : Int) (h : Hp) : Option (Int × Hp) :=
  cP (g_X8_isFlag x1 h) fun z1 =>
  joinF (fun (a2 : Unit) =>
    cI (-2) fun z4 =>
    some (z4, h)) fun j3 =>
  if z1 = 0 then
    j3 ()
  else
    if x2 < 0 then
      j3 ()
    else
      cP (g_X8_isSpan x3) fun z5 =>
      if z5 = 0 then
        j3 ()
      else
        cI (-1) fun z6 =>
        cV (g_X6_start 46 26 z6 x2 h) fun h7 =>
        gR h7 0 1 [3, 9] fun q8 =>
        cV (g_X6_watchFlag 46 q8 x1 h7) fun h9 =>
        gR h9 0 1 [3, 9] fun q10 =>
        gR h9 0 3 [15, 20] fun q11 =>
        cV (g_X6_run 46 q10 q11 (-1) x3 h9) fun h12 =>
        cI (0) fun z13 =>
        rdI h12 55 2 z13 fun z14 =>
        cI (-1) fun z15 =>
        cI (0) fun z16 =>
        joinF (fun (a17 : Int × Hp) =>
          some (a17.1, a17.2)) fun j18 =>
        loopF (g_X8_again_l22 j18 x1 x2 x3 z14) FU (z14, z15, z16, h12)
def g_X8_isSeeds (x1 : Int) : Option (Int) :=
  cI (1) fun z1 =>
  joinF (fun (a2 : Int) =>
    retZ a2) fun j3 =>
  joinF (fun (a5 : Unit) =>
    cI (0) fun z7 =>
    j3 z7) fun j6 =>
  if x1 < z1 then
    j6 ()
  else
    cI (9) fun z8 =>
    if z8 < x1 then
      j6 ()
    else
      cI (1) fun z9 =>
      j3 z9
def g_X2_isDrawn (b0 : Nat) (h : Hp) : Option (Int) :=
  cI (0) fun z1 =>
  rdI h (b0 + 1) 9 z1 fun z2 =>
  cI (-1) fun z3 =>
  joinF (fun (a4 : Int) =>
    retZ a4) fun j5 =>
  if z2 = z3 then
    cI (0) fun z7 =>
    j5 z7
  else
    cI (1) fun z8 =>
    j5 z8
def g_X8_seedsThatDiffer (x1 : Int) (h : Hp) : Option (Int) :=
  gR h 0 3 [15, 20] fun q1 =>
  cP (g_X2_isDrawn q1 h) fun z2 =>
  joinF (fun (a3 : Int) =>
    some a3) fun j4 =>
  if z2 = 0 then
    cI (1) fun z6 =>
    j4 z6
  else
    j4 x1
def g_X3_heapUp (b0 : Nat) (x1 : Int) (x2 : Int) (h : Hp) : Option (Hp) :=
  cP (g_X3_isPlace x1) fun z1 =>
  joinF (fun (a2 : Hp) =>
    some a2) fun j3 =>
  if z1 = 0 then
    j3 h
  else
    rdI h (b0 + 1) 64 x1 fun z5 =>
    addI z5 x2 fun z6 =>
    wrI h (b0 + 1) 64 x1 z6 fun h7 =>
    cI (0) fun z8 =>
    pZ h7 b0 15 z8 fun h9 =>
    j3 h9
def g_X8_sumOfTower_l4 (x1 : Int) (x2 : Int) (x3 : Int) (x4 : Int) (l4 : Int × Int × Hp → Option (Int × Hp)) (q3 : Int × Int × Hp) : Option (Int × Hp) :=
      if x3 < q3.2.1 then
        some (q3.1, q3.2.2)
      else
        cI (-1) fun z8 =>
        cV (g_X6_start 46 26 z8 q3.2.1 q3.2.2) fun h9 =>
        cV (g_X3_heapUp 47 x1 x2 h9) fun h10 =>
        rdI h10 48 64 x1 fun z11 =>
        gR h10 0 1 [3, 9] fun q12 =>
        cP (g_X0_fall q12 h10) fun z13 =>
        subI z11 z13 fun z14 =>
        cV (g_X6_watch 46 x1 z14 h10) fun h15 =>
        gR h15 0 1 [3, 9] fun q16 =>
        gR h15 0 3 [15, 20] fun q17 =>
        cV (g_X6_run 46 q16 q17 (-1) x4 h15) fun h18 =>
        cI (0) fun z19 =>
        rdI h18 55 2 z19 fun z20 =>
        addI q3.1 z20 fun z21 =>
        addI q3.2.1 (1) fun z22 =>
        l4 (z21, z22, h18)
def g_X8_sumOfTower (x1 : Int) (x2 : Int) (x3 : Int) (x4 : Int) (h : Hp) : Option (Int × Hp) :=
  cI (0) fun z1 =>
  cI (1) fun z2 =>
  loopF (g_X8_sumOfTower_l4 x1 x2 x3 x4) FU (z1, z2, h)
def g_X8_stand_l17 (j13 : Int × Hp → Option (Int × Hp)) (x1 : Int) (x3 : Int) (z8 : Int) (l17 : Int × Int × Int × Hp → Option (Int × Hp)) (q16 : Int × Int × Int × Hp) : Option (Int × Hp) :=
              gR q16.2.2.2 0 1 [3, 9] fun q22 =>
              cP (g_X0_cells q22 q16.2.2.2) fun z23 =>
              if z23 ≤ q16.2.2.1 then
                j13 (q16.1, q16.2.2.2)
              else
                mulI z8 x3 fun z24 =>
                if z24 ≤ q16.2.1 then
                  j13 (q16.1, q16.2.2.2)
                else
                  rdI q16.2.2.2 30 64 q16.2.2.1 fun z25 =>
                  joinF (fun (a26 : Int × Int × Hp) =>
                    addI q16.2.2.1 (1) fun z31 =>
                    l17 (a26.1, a26.2.1, z31, a26.2.2)) fun j27 =>
                  if z25 = 0 then
                    cW (g_X8_sumOfTower q16.2.2.1 x1 z8 x3 q16.2.2.2) fun z32 h33 =>
                    if z32 ≤ q16.2.1 then
                      j27 (q16.1, q16.2.1, h33)
                    else
                      j27 (q16.2.2.1, z32, h33)
                  else
                    j27 (q16.1, q16.2.1, q16.2.2.2)
def g_X8_stand (x1 : Int) (x2 : Int) (x3 : Int) (h : Hp) : Option (Int × Hp) :=
  cI (1) fun z1 =>
  joinF (fun (a2 : Unit) =>
    cI (-2) fun z4 =>
    some (z4, h)) fun j3 =>
  if x1 < z1 then
    j3 ()
  else
    cI (30) fun z5 =>
    if z5 < x1 then
      j3 ()
    else
      cP (g_X8_isSeeds x2) fun z6 =>
      if z6 = 0 then
        j3 ()
      else
        cP (g_X8_isSpan x3) fun z7 =>
        if z7 = 0 then
          j3 ()
        else
          cP (g_X8_seedsThatDiffer x2 h) fun z8 =>
          cI (-1) fun z9 =>
          cI (-1) fun z10 =>
          cI (0) fun z11 =>
          joinF (fun (a12 : Int × Hp) =>
            some (a12.1, a12.2)) fun j13 =>
          loopF (g_X8_stand_l17 j13 x1 x3 z8) FU (z9, z10, z11, h)
def g_X8_greatestDivisor_l2 (x1 : Int) (x2 : Int) (l2 : Int → Option (Int)) (q1 : Int) : Option (Int) :=
      cI (1) fun z4 =>
      if q1 ≤ z4 then
        cI (1) fun z5 =>
        some z5
      else
        remI x1 q1 fun z6 =>
        joinF (fun (a7 : Unit) =>
          addI q1 (-1) fun z9 =>
          l2 z9) fun j8 =>
        if z6 = 0 then
          remI x2 q1 fun z10 =>
          if z10 = 0 then
            some q1
          else
            j8 ()
        else
          j8 ()
def g_X8_greatestDivisor (x1 : Int) (x2 : Int) : Option (Int) :=
  loopF (g_X8_greatestDivisor_l2 x1 x2) FU x2
def g_X8_outlasts_l22 (j12 : Int × Hp → Option (Int × Hp)) (x1 : Int) (x2 : Int) (x4 : Int) (z8 : Int) (l22 : Int × Int × Hp → Option (Int × Hp)) (q21 : Int × Int × Hp) : Option (Int × Hp) :=
                if z8 < q21.2.1 then
                  j12 (q21.1, q21.2.2)
                else
                  cI (-1) fun z26 =>
                  cV (g_X6_start 46 26 z26 q21.2.1 q21.2.2) fun h27 =>
                  gR h27 0 1 [3, 9] fun q28 =>
                  cV (g_X6_watchFlag 46 q28 x1 h27) fun h29 =>
                  gR h29 0 1 [3, 9] fun q30 =>
                  cV (g_X6_watchFlag 46 q30 x2 h29) fun h31 =>
                  gR h31 0 1 [3, 9] fun q32 =>
                  gR h31 0 3 [15, 20] fun q33 =>
                  cV (g_X6_run 46 q32 q33 (-1) x4 h31) fun h34 =>
                  cI (0) fun z35 =>
                  rdI h34 55 2 z35 fun z36 =>
                  cI (1) fun z37 =>
                  rdI h34 55 2 z37 fun z38 =>
                  joinF (fun (a39 : Int) =>
                    addI q21.2.1 (1) fun z42 =>
                    l22 (a39, z42, h34)) fun j40 =>
                  if z36 ≤ z38 then
                    j40 q21.1
                  else
                    addI q21.1 (1) fun z43 =>
                    j40 z43
def g_X8_outlasts (x1 : Int) (x2 : Int) (x3 : Int) (x4 : Int) (x5 : Int) (h : Hp) : Option (Int × Hp) :=
  cP (g_X8_isFlag x1 h) fun z1 =>
  joinF (fun (a2 : Unit) =>
    cI (-2) fun z4 =>
    some (z4, h)) fun j3 =>
  if z1 = 0 then
    j3 ()
  else
    cP (g_X8_isFlag x2 h) fun z5 =>
    if z5 = 0 then
      j3 ()
    else
      if x1 = x2 then
        j3 ()
      else
        cP (g_X8_isSeeds x3) fun z6 =>
        if z6 = 0 then
          j3 ()
        else
          cP (g_X8_isSpan x4) fun z7 =>
          if z7 = 0 then
            j3 ()
          else
            cP (g_X8_seedsThatDiffer x3 h) fun z8 =>
            cI (0) fun z9 =>
            cI (1) fun z10 =>
            joinF (fun (a11 : Int × Hp) =>
              cP (g_X8_greatestDivisor a11.1 z8) fun z15 =>
              joinF (fun (a16 : Int) =>
                some (a16, a11.2)) fun j17 =>
              if x5 = 0 then
                divI a11.1 z15 fun z19 =>
                j17 z19
              else
                divI z8 z15 fun z20 =>
                j17 z20) fun j12 =>
            loopF (g_X8_outlasts_l22 j12 x1 x2 x4 z8) FU (z9, z10, h)
def g_X8_worthOfPlan (x1 : Int) (x2 : Int) (x3 : Int) (x4 : Int) (h : Hp) : Option (Int × Hp) :=
  cV (g_X6_start 46 26 x1 x3 h) fun h1 =>
  joinF (fun (a2 : Hp) =>
    gR a2 0 1 [3, 9] fun q5 =>
    gR a2 0 3 [15, 20] fun q6 =>
    cP (g_X8_planOrNull x1 a2) fun n7 =>
    cV (g_X6_run 46 q5 q6 n7 x4 a2) fun h8 =>
    joinF (fun (a9 : Int) =>
      some (a9, h8)) fun j10 =>
    if x2 = 0 then
      cI (0) fun z16 =>
      rdI h8 55 2 z16 fun z17 =>
      j10 z17
    else
      gR h8 0 1 [3, 9] fun q12 =>
      cI (0) fun z13 =>
      rdI h8 (q12 + 4) 3 z13 fun z14 =>
      rdI h8 48 64 z14 fun z15 =>
      j10 z15) fun j3 =>
  if x2 = 0 then
    gR h1 0 1 [3, 9] fun q18 =>
    cI (0) fun z19 =>
    cV (g_X6_watchFlag 46 q18 z19 h1) fun h20 =>
    j3 h20
  else
    j3 h1
def g_X8_contest_l32 (j23 : Int × Hp → Option (Int × Hp)) (q13 : Int × Int × Int × Hp) (x1 : Int) (x3 : Int) (z9 : Int) (l32 : Int × Int × Hp → Option (Int × Hp)) (q31 : Int × Int × Hp) : Option (Int × Hp) :=
                      if z9 < q31.2.1 then
                        j23 (q31.1, q31.2.2)
                      else
                        cW (g_X8_worthOfPlan q13.2.2.1 x1 q31.2.1 x3 q31.2.2) fun z36 h37 =>
                        addI q31.1 z36 fun z38 =>
                        addI q31.2.1 (1) fun z39 =>
                        l32 (z38, z39, h37)
def g_X8_contest_l14 (x1 : Int) (x3 : Int) (z9 : Int) (l14 : Int × Int × Int × Hp → Option (Int × Hp)) (q13 : Int × Int × Int × Hp) : Option (Int × Hp) :=
                gF q13.2.2.2 0 6 fun z19 =>
                if z19 ≤ q13.2.2.1 then
                  some (q13.1, q13.2.2.2)
                else
                  cI (0) fun z20 =>
                  cI (1) fun z21 =>
                  joinF (fun (a22 : Int × Hp) =>
                    joinF (fun (a26 : Int × Int) =>
                      addI q13.2.2.1 (1) fun z30 =>
                      l14 (a26.1, a26.2, z30, a22.2)) fun j27 =>
                    if a22.1 ≤ q13.2.1 then
                      j27 (q13.1, q13.2.1)
                    else
                      j27 (q13.2.2.1, a22.1)) fun j23 =>
                  loopF (g_X8_contest_l32 j23 q13 x1 x3 z9) FU (z20, z21, q13.2.2.2)
def g_X8_contest (x1 : Int) (x2 : Int) (x3 : Int) (h : Hp) : Option (Int × Hp) :=
  joinF (fun (a1 : Unit) =>
    cI (-2) fun z3 =>
    some (z3, h)) fun j2 =>
  if x1 < 0 then
    j2 ()
  else
    cI (1) fun z4 =>
    if z4 < x1 then
      j2 ()
    else
      cP (g_X8_isSeeds x2) fun z5 =>
      if z5 = 0 then
        j2 ()
      else
        cP (g_X8_isSpan x3) fun z6 =>
        if z6 = 0 then
          j2 ()
        else
          gR h 0 1 [3, 9] fun q7 =>
          gF h q7 5 fun z8 =>
          if z8 = 0 then
            cI (-4) fun z40 =>
            some (z40, h)
          else
            cP (g_X8_seedsThatDiffer x2 h) fun z9 =>
            cI (-1) fun z10 =>
            cI (-1) fun z11 =>
            cI (0) fun z12 =>
            loopF (g_X8_contest_l14 x1 x3 z9) FU (z10, z11, z12, h)
def g_X5_isHeights_l7 (b0 : Nat) (h : Hp) (j4 : Unit → Option (Int)) (l7 : Int → Option (Int)) (q6 : Int) : Option (Int) :=
        gF h b0 1 fun z9 =>
        if z9 ≤ q6 then
          cI (1) fun z10 =>
          retZ z10
        else
          rdI h (b0 + 1) 900 q6 fun z11 =>
          cI (32) fun z12 =>
          if z11 < z12 then
            j4 ()
          else
            rdI h (b0 + 1) 900 q6 fun z13 =>
            cI (126) fun z14 =>
            if z13 ≤ z14 then
              addI q6 (1) fun z15 =>
              l7 z15
            else
              j4 ()
def g_X5_isHeights (b0 : Nat) (x1 : Int) (h : Hp) : Option (Int) :=
  gF h b0 1 fun z1 =>
  if z1 = x1 then
    cI (0) fun z2 =>
    joinF (fun (a3 : Unit) =>
      cI (0) fun z5 =>
      retZ z5) fun j4 =>
    loopF (g_X5_isHeights_l7 b0 h j4) FU z2
  else
    cI (0) fun z16 =>
    retZ z16
def g_X5_areHeights_l6 (b0 : Nat) (b1 : Nat) (h : Hp) (j3 : Unit → Option (Int)) (x2 : Int) (l6 : Int → Option (Int)) (q5 : Int) : Option (Int) :=
      if x2 ≤ q5 then
        j3 ()
      else
        cI (64) fun z8 =>
        if z8 ≤ q5 then
          j3 ()
        else
          rdI h b1 64 q5 fun z9 =>
          rdI h (b0 + 1) 900 q5 fun z10 =>
          cI (32) fun z11 =>
          subI z10 z11 fun z12 =>
          if z9 = z12 then
            addI q5 (1) fun z13 =>
            l6 z13
          else
            cI (0) fun z14 =>
            retZ z14
def g_X5_areHeights (b0 : Nat) (b1 : Nat) (x2 : Int) (h : Hp) : Option (Int) :=
  cI (0) fun z1 =>
  joinF (fun (a2 : Unit) =>
    cI (1) fun z4 =>
    retZ z4) fun j3 =>
  loopF (g_X5_areHeights_l6 b0 b1 h j3 x2) FU z1
def g_X8_wavesThatFit_l4  (l4 : Int × Int × Hp → Option (Int × Hp)) (q3 : Int × Int × Hp) : Option (Int × Hp) :=
      gR q3.2.2 0 3 [15, 20] fun q8 =>
      gF q3.2.2 q8 4 fun z9 =>
      if z9 ≤ q3.2.1 then
        some (q3.1, q3.2.2)
      else
        cV (g_X3_copyFrom 47 26 q3.2.2) fun h10 =>
        gR h10 0 1 [3, 9] fun q11 =>
        gR h10 0 3 [15, 20] fun q12 =>
        rdI h10 (q12 + 3) 12 q3.2.1 fun z13 =>
        gR h10 0 3 [15, 20] fun q14 =>
        rdI h10 (q14 + 4) 12 q3.2.1 fun z15 =>
        gR h10 0 3 [15, 20] fun q16 =>
        cP (g_X2_cut q16 h10) fun z17 =>
        cV (g_X3_runUp 47 q11 z13 z15 z17 h10) fun h18 =>
        gR h18 0 1 [3, 9] fun q19 =>
        cV (g_X3_slide 47 q19 h18) fun h20 =>
        gR h20 0 1 [3, 9] fun q21 =>
        cP (g_X0_cells q21 h20) fun z22 =>
        cP (g_X5_areHeights 1 48 z22 h20) fun z23 =>
        joinF (fun (a24 : Int) =>
          addI q3.2.1 (1) fun z27 =>
          l4 (a24, z27, h20)) fun j25 =>
        if z23 = 0 then
          j25 q3.1
        else
          cI (1) fun z28 =>
          shlI z28 q3.2.1 fun z29 =>
          orI q3.1 z29 fun z30 =>
          j25 z30
def g_X8_wavesThatFit (h : Hp) : Option (Int × Hp) :=
  cI (0) fun z1 =>
  cI (0) fun z2 =>
  loopF (g_X8_wavesThatFit_l4 ) FU (z1, z2, h)
def g_X8_which (h : Hp) : Option (Int × Hp) :=
  gR h 0 1 [3, 9] fun q1 =>
  cP (g_X0_cells q1 h) fun z2 =>
  cP (g_X5_isHeights 1 z2 h) fun z3 =>
  joinF (fun (a4 : Int × Hp) =>
    cI (0) fun z8 =>
    pF a4.2 1 1 z8 fun h9 =>
    some (a4.1, h9)) fun j5 =>
  if z3 = 0 then
    cI (-1) fun z10 =>
    j5 (z10, h)
  else
    cW (g_X8_wavesThatFit h) fun z11 h12 =>
    j5 (z11, h12)
def g_X8_unitsOfTower_l6 (j3 : Int → Option (Int)) (x1 : Int) (x2 : Int) (l6 : Int × Int → Option (Int)) (q5 : Int × Int) : Option (Int) :=
      if x1 ≤ q5.2 then
        j3 q5.1
      else
        mulI q5.2 x2 fun z9 =>
        subI x1 z9 fun z10 =>
        if z10 ≤ 0 then
          j3 q5.1
        else
          cI (2) fun z11 =>
          mulI q5.2 x2 fun z12 =>
          subI x1 z12 fun z13 =>
          mulI z11 z13 fun z14 =>
          addI q5.1 z14 fun z15 =>
          addI q5.2 (1) fun z16 =>
          l6 (z15, z16)
def g_X8_unitsOfTower (x1 : Int) (x2 : Int) : Option (Int) :=
  cI (1) fun z1 =>
  joinF (fun (a2 : Int) =>
    some a2) fun j3 =>
  loopF (g_X8_unitsOfTower_l6 j3 x1 x2) FU (x1, z1)
def g_X8_join_l19 (j12 : Int × Int → Option (Int)) (x3 : Int) (x4 : Int) (z5 : Int) (z7 : Int) (l19 : Int × Int × Int → Option (Int)) (q18 : Int × Int × Int) : Option (Int) :=
          cI (99) fun z23 =>
          if z23 < q18.2.2 then
            j12 (q18.1, q18.2.1)
          else
            cI (0) fun z24 =>
            mulI x3 q18.2.2 fun z25 =>
            subI z5 z25 fun z26 =>
            maxI z24 z26 fun z27 =>
            cI (0) fun z28 =>
            mulI x4 q18.2.2 fun z29 =>
            subI z5 z29 fun z30 =>
            maxI z28 z30 fun z31 =>
            addI z27 z31 fun z32 =>
            cI (100) fun z33 =>
            mulI z32 z33 fun z34 =>
            addI z34 z7 fun z35 =>
            cI (1) fun z36 =>
            subI z35 z36 fun z37 =>
            divI z37 z7 fun z38 =>
            addI q18.2.2 z38 fun z39 =>
            joinF (fun (a40 : Int × Int) =>
              addI q18.2.2 (1) fun z44 =>
              l19 (a40.1, a40.2, z44)) fun j41 =>
            if q18.2.1 ≤ z39 then
              j41 (q18.1, q18.2.1)
            else
              j41 (q18.2.2, z39)
def g_X8_join (x1 : Int) (x2 : Int) (x3 : Int) (x4 : Int) (x5 : Int) (x6 : Int) : Option (Int) :=
  cI (1) fun z1 =>
  joinF (fun (a2 : Int) =>
    if a2 = 0 then
      cI (-2) fun z45 =>
      some z45
    else
      cP (g_X8_unitsOfTower x1 x2) fun z5 =>
      addI x3 x4 fun z6 =>
      mulI z6 x5 fun z7 =>
      cI (0) fun z8 =>
      cI (2147483647) fun z9 =>
      cI (0) fun z10 =>
      joinF (fun (a11 : Int × Int) =>
        joinF (fun (a15 : Int) =>
          some a15) fun j16 =>
        if x6 = 0 then
          j16 a11.1
        else
          j16 a11.2) fun j12 =>
      loopF (g_X8_join_l19 j12 x3 x4 z5 z7) FU (z8, z9, z10)) fun j3 =>
  joinF (fun (a46 : Unit) =>
    cI (0) fun z48 =>
    j3 z48) fun j47 =>
  if x1 < z1 then
    j47 ()
  else
    cI (99) fun z49 =>
    if z49 < x1 then
      j47 ()
    else
      cI (1) fun z50 =>
      if x2 < z50 then
        j47 ()
      else
        cI (99) fun z51 =>
        if z51 < x2 then
          j47 ()
        else
          cI (1) fun z52 =>
          if x3 < z52 then
            j47 ()
          else
            cI (50) fun z53 =>
            if z53 < x3 then
              j47 ()
            else
              cI (1) fun z54 =>
              if x4 < z54 then
                j47 ()
              else
                cI (50) fun z55 =>
                if z55 < x4 then
                  j47 ()
                else
                  cI (1) fun z56 =>
                  if x5 < z56 then
                    j47 ()
                  else
                    cI (100) fun z57 =>
                    if z57 < x5 then
                      j47 ()
                    else
                      if x6 < 0 then
                        j47 ()
                      else
                        cI (1) fun z58 =>
                        if z58 < x6 then
                          j47 ()
                        else
                          cI (1) fun z59 =>
                          j3 z59
def g_X8_count (x1 : Int) (h : Hp) : Option (Int) :=
  joinF (fun (a1 : Int) =>
    some a1) fun j2 =>
  if x1 = 0 then
    gR h 0 1 [3, 9] fun q5 =>
    gF h q5 6 fun z6 =>
    j2 z6
  else
  if x1 = 1 then
    gR h 0 3 [15, 20] fun q8 =>
    gF h q8 5 fun z9 =>
    j2 z9
  else
  if x1 = 2 then
    gF h 36 0 fun z11 =>
    j2 z11
  else
  if x1 = 3 then
    gF h 36 1 fun z13 =>
    j2 z13
  else
  if x1 = 4 then
    gF h 1 1 fun z15 =>
    j2 z15
  else
  cI (-1) fun z16 =>
  j2 z16
def g_X9_in (x1 : Int) (x2 : Int) (x3 : Int) : Option (Int) :=
  lcmpI x1 x2 fun z1 =>
  joinF (fun (a2 : Int) =>
    retZ a2) fun j3 =>
  joinF (fun (a5 : Unit) =>
    cI (0) fun z7 =>
    j3 z7) fun j6 =>
  if z1 < 0 then
    j6 ()
  else
    lcmpI x1 x3 fun z8 =>
    if 0 < z8 then
      j6 ()
    else
      cI (1) fun z9 =>
      j3 z9
def g_X9_bad (x1 : Int) (h : Hp) : Option (Int × Hp) :=
  pF h 100 8 x1 fun h1 =>
  gF h1 100 3 fun z2 =>
  pF h1 100 9 z2 fun h3 =>
  cI (0) fun z4 =>
  retZW z4 h3
def g_X9_byteAt (x1 : Int) (h : Hp) : Option (Int) :=
  gF h 100 2 fun z1 =>
  joinF (fun (a2 : Int) =>
    some a2) fun j3 =>
  if z1 ≤ x1 then
    cI (0) fun z5 =>
    j3 z5
  else
    rdI h 101 900 x1 fun z6 =>
    cI (255) fun z7 =>
    andI z6 z7 fun z8 =>
    j3 z8
def g_X9_isSmall (x1 : Int) : Option (Int) :=
  cI (97) fun z1 =>
  joinF (fun (a2 : Int) =>
    retZ a2) fun j3 =>
  joinF (fun (a5 : Unit) =>
    cI (0) fun z7 =>
    j3 z7) fun j6 =>
  if x1 < z1 then
    j6 ()
  else
    cI (122) fun z8 =>
    if z8 < x1 then
      j6 ()
    else
      cI (1) fun z9 =>
      j3 z9
def g_X9_isDigit (x1 : Int) : Option (Int) :=
  cI (48) fun z1 =>
  joinF (fun (a2 : Int) =>
    retZ a2) fun j3 =>
  joinF (fun (a5 : Unit) =>
    cI (0) fun z7 =>
    j3 z7) fun j6 =>
  if x1 < z1 then
    j6 ()
  else
    cI (57) fun z8 =>
    if z8 < x1 then
      j6 ()
    else
      cI (1) fun z9 =>
      j3 z9
def g_X9_scan_l42 (j29 : Hp → Option (Hp)) (l42 : Hp → Option (Hp)) (q41 : Hp) : Option (Hp) :=
              gF q41 100 4 fun z44 =>
              cP (g_X9_byteAt z44 q41) fun z45 =>
              cP (g_X9_isDigit z45) fun z46 =>
              if z46 = 0 then
                j29 q41
              else
                gF q41 100 4 fun z47 =>
                gF q41 100 3 fun z48 =>
                subI z47 z48 fun z49 =>
                cI (3) fun z50 =>
                joinF (fun (a51 : Hp) =>
                  gF a51 100 4 fun z54 =>
                  cI (1) fun z55 =>
                  addI z54 z55 fun z56 =>
                  pF a51 100 4 z56 fun h57 =>
                  l42 h57) fun j52 =>
                if z50 ≤ z49 then
                  j52 q41
                else
                  cI (10) fun z58 =>
                  gF q41 100 6 fun z59 =>
                  mulI z58 z59 fun z60 =>
                  gF q41 100 4 fun z61 =>
                  cP (g_X9_byteAt z61 q41) fun z62 =>
                  addI z60 z62 fun z63 =>
                  cI (48) fun z64 =>
                  subI z63 z64 fun z65 =>
                  pF q41 100 6 z65 fun h66 =>
                  j52 h66
def g_X9_scan_l81 (j68 : Hp → Option (Hp)) (l81 : Hp → Option (Hp)) (q80 : Hp) : Option (Hp) :=
            gF q80 100 4 fun z83 =>
            cP (g_X9_byteAt z83 q80) fun z84 =>
            cP (g_X9_isSmall z84) fun z85 =>
            if z85 = 0 then
              j68 q80
            else
              gF q80 100 4 fun z86 =>
              cI (1) fun z87 =>
              addI z86 z87 fun z88 =>
              pF q80 100 4 z88 fun h89 =>
              l81 h89
def g_X9_scan_l93 (j2 : Hp → Option (Hp)) (l93 : Hp → Option (Hp)) (q92 : Hp) : Option (Hp) :=
      gF q92 100 4 fun z95 =>
      gF q92 100 2 fun z96 =>
      if z96 ≤ z95 then
        j2 q92
      else
        gF q92 100 4 fun z97 =>
        rdI q92 101 900 z97 fun z98 =>
        cI (32) fun z99 =>
        joinF (fun (a100 : Unit) =>
          gF q92 100 4 fun z102 =>
          cI (1) fun z103 =>
          addI z102 z103 fun z104 =>
          pF q92 100 4 z104 fun h105 =>
          l93 h105) fun j101 =>
        if z98 = z99 then
          j101 ()
        else
          gF q92 100 4 fun z106 =>
          rdI q92 101 900 z106 fun z107 =>
          cI (10) fun z108 =>
          if z107 = z108 then
            j101 ()
          else
            j2 q92
def g_X9_scan (h : Hp) : Option (Hp) :=
  joinF (fun (a1 : Hp) =>
    gF a1 100 4 fun z4 =>
    pF a1 100 3 z4 fun h5 =>
    gF h5 100 3 fun z6 =>
    cP (g_X9_byteAt z6 h5) fun z7 =>
    gF h5 100 3 fun z8 =>
    gF h5 100 2 fun z9 =>
    joinF (fun (a10 : Hp) =>
      some a10) fun j11 =>
    if z8 = z9 then
      cI (0) fun z90 =>
      pF h5 100 5 z90 fun h91 =>
      j11 h91
    else
      cP (g_X9_isSmall z7) fun z13 =>
      if z13 = 0 then
        cP (g_X9_isDigit z7) fun z14 =>
        if z14 = 0 then
          cI (59) fun z15 =>
          joinF (fun (a16 : Int) =>
            pF h5 100 5 a16 fun h19 =>
            gF h19 100 4 fun z20 =>
            cI (1) fun z21 =>
            addI z20 z21 fun z22 =>
            pF h19 100 4 z22 fun h23 =>
            j11 h23) fun j17 =>
          if z7 = z15 then
            cI (3) fun z25 =>
            j17 z25
          else
            cI (4) fun z24 =>
            j17 z24
        else
          cI (0) fun z26 =>
          pF h5 100 6 z26 fun h27 =>
          joinF (fun (a28 : Hp) =>
            gF a28 100 4 fun z31 =>
            gF a28 100 3 fun z32 =>
            subI z31 z32 fun z33 =>
            cI (3) fun z34 =>
            joinF (fun (a35 : Int) =>
              pF a28 100 5 a35 fun h38 =>
              j11 h38) fun j36 =>
            if z33 ≤ z34 then
              cI (2) fun z39 =>
              j36 z39
            else
              cI (4) fun z40 =>
              j36 z40) fun j29 =>
          loopF (g_X9_scan_l42 j29) FU h27
      else
        joinF (fun (a67 : Hp) =>
          gF a67 100 4 fun z70 =>
          gF a67 100 3 fun z71 =>
          subI z70 z71 fun z72 =>
          cI (8) fun z73 =>
          joinF (fun (a74 : Int) =>
            pF a67 100 5 a74 fun h77 =>
            j11 h77) fun j75 =>
          if z72 ≤ z73 then
            cI (1) fun z78 =>
            j75 z78
          else
            cI (4) fun z79 =>
            j75 z79) fun j68 =>
        loopF (g_X9_scan_l81 j68) FU h5) fun j2 =>
  loopF (g_X9_scan_l93 j2) FU h
def g_X9_is_l11 (h : Hp) (j8 : Int → Option (Int)) (w1 : List Int) (l11 : Int × Int → Option (Int)) (q10 : Int × Int) : Option (Int) :=
        cP (sLen w1) fun z14 =>
        if z14 ≤ q10.2 then
          j8 q10.1
        else
          if q10.1 = 0 then
            j8 q10.1
          else
            gF h 100 3 fun z15 =>
            addI z15 q10.2 fun z16 =>
            rdI h 101 900 z16 fun z17 =>
            cP (sAt w1 q10.2) fun z18 =>
            joinF (fun (a19 : Int) =>
              addI q10.2 (1) fun z22 =>
              l11 (a19, z22)) fun j20 =>
            if z17 = z18 then
              cI (1) fun z24 =>
              j20 z24
            else
              cI (0) fun z23 =>
              j20 z23
def g_X9_is (w1 : List Int) (h : Hp) : Option (Int) :=
  gF h 100 5 fun z1 =>
  cI (1) fun z2 =>
  joinF (fun (a3 : Int) =>
    cI (0) fun z6 =>
    joinF (fun (a7 : Int) =>
      retZ a7) fun j8 =>
    loopF (g_X9_is_l11 h j8 w1) FU (a3, z6)) fun j4 =>
  joinF (fun (a25 : Unit) =>
    cI (0) fun z27 =>
    j4 z27) fun j26 =>
  if z1 = z2 then
    gF h 100 4 fun z28 =>
    gF h 100 3 fun z29 =>
    subI z28 z29 fun z30 =>
    cP (sLen w1) fun z31 =>
    if z30 = z31 then
      cI (1) fun z32 =>
      j4 z32
    else
      j26 ()
  else
    j26 ()
def g_X9_peek (x1 : Int) (x2 : Int) (h : Hp) : Option (Int × Hp) :=
  gF h 100 5 fun z1 =>
  cI (2) fun z2 =>
  if z1 = z2 then
    gF h 100 6 fun z3 =>
    i2lI z3 fun z4 =>
    i2lI x1 fun z5 =>
    i2lI x2 fun z6 =>
    cP (g_X9_in z4 z5 z6) fun z7 =>
    if z7 = 0 then
      cI (2) fun z11 =>
      cW (g_X9_bad z11 h) fun z12 h13 =>
      retZW z12 h13
    else
      gF h 100 6 fun z8 =>
      pF h 100 7 z8 fun h9 =>
      cI (1) fun z10 =>
      retZW z10 h9
  else
    cI (1) fun z14 =>
    cW (g_X9_bad z14 h) fun z15 h16 =>
    retZW z15 h16
def g_X9_number (x1 : Int) (x2 : Int) (h : Hp) : Option (Int × Hp) :=
  cW (g_X9_peek x1 x2 h) fun z1 h2 =>
  if z1 = 0 then
    cI (0) fun z5 =>
    retZW z5 h2
  else
    cV (g_X9_scan h2) fun h3 =>
    cI (1) fun z4 =>
    retZW z4 h3
def g_X9_open (h : Hp) : Option (Hp) :=
  gF h 100 1 fun z1 =>
  pF h 100 2 z1 fun h2 =>
  cI (0) fun z3 =>
  pF h2 100 1 z3 fun h4 =>
  cI (0) fun z5 =>
  pF h4 100 4 z5 fun h6 =>
  cI (0) fun z7 =>
  pF h6 100 8 z7 fun h8 =>
  cI (-1) fun z9 =>
  pF h8 100 9 z9 fun h10 =>
  cV (g_X9_scan h10) fun h11 =>
  some h11
def g_X9_close (h : Hp) : Option (Int × Hp) :=
  gF h 100 5 fun z1 =>
  cI (3) fun z2 =>
  if z1 = z2 then
    cV (g_X9_scan h) fun h3 =>
    cI (1) fun z4 =>
    retZW z4 h3
  else
    cI (1) fun z5 =>
    cW (g_X9_bad z5 h) fun z6 h7 =>
    retZW z6 h7
def g_X9_usual (x1 : Int) : Option (Int) :=
  joinF (fun (a1 : Unit) =>
    cI (6) fun z3 =>
    some z3) fun j2 =>
  joinF (fun (a4 : Unit) =>
    cI (4) fun z6 =>
    some z6) fun j5 =>
  joinF (fun (a7 : Unit) =>
    cI (1) fun z9 =>
    some z9) fun j8 =>
  if x1 = 0 then
    j2 ()
  else
  if x1 = 1 then
    cI (2) fun z12 =>
    some z12
  else
  if x1 = 2 then
    cI (10) fun z14 =>
    some z14
  else
  if x1 = 3 then
    j5 ()
  else
  if x1 = 4 then
    j8 ()
  else
  if x1 = 5 then
    cI (0) fun z18 =>
    some z18
  else
  if x1 = 6 then
    j5 ()
  else
  if x1 = 7 then
    j2 ()
  else
  j8 ()
def g_X9_greatest (x1 : Int) : Option (Int) :=
  joinF (fun (a1 : Unit) =>
    cI (20) fun z3 =>
    some z3) fun j2 =>
  if x1 = 0 then
    cI (40) fun z5 =>
    some z5
  else
  if x1 = 1 then
    cI (5) fun z7 =>
    some z7
  else
  if x1 = 2 then
    cI (60) fun z9 =>
    some z9
  else
  if x1 = 3 then
    cI (16) fun z11 =>
    some z11
  else
  if x1 = 4 then
    j2 ()
  else
  if x1 = 5 then
    j2 ()
  else
  if x1 = 6 then
    cI (15) fun z15 =>
    some z15
  else
  if x1 = 7 then
    j2 ()
  else
  if x1 = 8 then
    cI (9) fun z18 =>
    some z18
  else
  j2 ()
def g_X9_cellAt (x1 : Int) (x2 : Int) (x3 : Int) (h : Hp) : Option (Int × Hp) :=
  cI (0) fun z1 =>
  cI (1) fun z2 =>
  subI x3 z2 fun z3 =>
  cW (g_X9_peek z1 z3 h) fun z4 h5 =>
  if z4 = 0 then
    cI (0) fun z11 =>
    retZW z11 h5
  else
    gF h5 100 7 fun z6 =>
    mulI x2 z6 fun z7 =>
    addI z7 x1 fun z8 =>
    pF h5 100 7 z8 fun h9 =>
    cI (1) fun z10 =>
    retZW z10 h9
def g_X9_readHeap (h : Hp) : Option (Int × Hp) :=
  cV (g_X9_scan h) fun h1 =>
  cI (1) fun z2 =>
  cI (40) fun z3 =>
  cW (g_X9_number z2 z3 h1) fun z4 h5 =>
  if z4 = 0 then
    cI (0) fun z37 =>
    retZW z37 h5
  else
    gF h5 100 7 fun z6 =>
    cI (0) fun z7 =>
    gF h5 100 14 fun z8 =>
    cI (1) fun z9 =>
    subI z8 z9 fun z10 =>
    cW (g_X9_number z7 z10 h5) fun z11 h12 =>
    joinF (fun (a13 : Hp) =>
      cI (0) fun z16 =>
      retZW z16 a13) fun j14 =>
    if z11 = 0 then
      j14 h12
    else
      gF h12 100 7 fun z17 =>
      gF h12 100 14 fun z18 =>
      gF h12 100 15 fun z19 =>
      cW (g_X9_cellAt z17 z18 z19 h12) fun z20 h21 =>
      if z20 = 0 then
        j14 h21
      else
        gF h21 100 7 fun z22 =>
        rdI h21 105 64 z22 fun z23 =>
        addI z23 z6 fun z24 =>
        cI (59) fun z25 =>
        if z24 ≤ z25 then
          gF h21 100 7 fun z26 =>
          rdI h21 105 64 z26 fun z27 =>
          addI z27 z6 fun z28 =>
          wrI h21 105 64 z26 z28 fun h29 =>
          cI (1) fun z30 =>
          pZ h29 100 27 z30 fun h31 =>
          cV (g_X9_scan h31) fun h32 =>
          cI (1) fun z33 =>
          retZW z33 h32
        else
          cI (2) fun z34 =>
          cW (g_X9_bad z34 h21) fun z35 h36 =>
          retZW z35 h36
def g_X9_readStone (h : Hp) : Option (Int × Hp) :=
  cV (g_X9_scan h) fun h1 =>
  cI (0) fun z2 =>
  gF h1 100 14 fun z3 =>
  cI (1) fun z4 =>
  subI z3 z4 fun z5 =>
  cW (g_X9_number z2 z5 h1) fun z6 h7 =>
  joinF (fun (a8 : Hp) =>
    cI (0) fun z11 =>
    retZW z11 a8) fun j9 =>
  if z6 = 0 then
    j9 h7
  else
    gF h7 100 7 fun z12 =>
    gF h7 100 14 fun z13 =>
    gF h7 100 15 fun z14 =>
    cW (g_X9_cellAt z12 z13 z14 h7) fun z15 h16 =>
    if z15 = 0 then
      j9 h16
    else
      gF h16 100 7 fun z17 =>
      rdI h16 109 64 z17 fun z18 =>
      if z18 = 0 then
        gF h16 100 7 fun z19 =>
        cI (1) fun z20 =>
        wrZ h16 109 64 z19 z20 fun h21 =>
        cI (1) fun z22 =>
        pZ h21 100 27 z22 fun h23 =>
        cV (g_X9_scan h23) fun h24 =>
        cI (1) fun z25 =>
        retZW z25 h24
      else
        cI (3) fun z26 =>
        cW (g_X9_bad z26 h16) fun z27 h28 =>
        retZW z27 h28
def g_X9_readFlag_l34 (h18 : Hp) (j21 : Unit → Option (Int × Hp)) (l34 : Int → Option (Int × Hp)) (q33 : Int) : Option (Int × Hp) :=
            gF h18 100 16 fun z36 =>
            if z36 ≤ q33 then
              j21 ()
            else
              rdI h18 107 3 q33 fun z37 =>
              gF h18 100 7 fun z38 =>
              if z37 = z38 then
                cI (3) fun z40 =>
                cW (g_X9_bad z40 h18) fun z41 h42 =>
                retZW z41 h42
              else
                addI q33 (1) fun z39 =>
                l34 z39
def g_X9_readFlag (h : Hp) : Option (Int × Hp) :=
  gF h 100 16 fun z1 =>
  cI (3) fun z2 =>
  if z1 = z2 then
    cI (4) fun z43 =>
    cW (g_X9_bad z43 h) fun z44 h45 =>
    retZW z44 h45
  else
    cV (g_X9_scan h) fun h3 =>
    cI (0) fun z4 =>
    gF h3 100 14 fun z5 =>
    cI (1) fun z6 =>
    subI z5 z6 fun z7 =>
    cW (g_X9_number z4 z7 h3) fun z8 h9 =>
    joinF (fun (a10 : Hp) =>
      cI (0) fun z13 =>
      retZW z13 a10) fun j11 =>
    if z8 = 0 then
      j11 h9
    else
      gF h9 100 7 fun z14 =>
      gF h9 100 14 fun z15 =>
      gF h9 100 15 fun z16 =>
      cW (g_X9_cellAt z14 z15 z16 h9) fun z17 h18 =>
      if z17 = 0 then
        j11 h18
      else
        cI (0) fun z19 =>
        joinF (fun (a20 : Unit) =>
          gF h18 100 16 fun z22 =>
          gF h18 100 7 fun z23 =>
          wrI h18 107 3 z22 z23 fun h24 =>
          gF h24 100 16 fun z25 =>
          cI (1) fun z26 =>
          addI z25 z26 fun z27 =>
          pF h24 100 16 z27 fun h28 =>
          cI (1) fun z29 =>
          pZ h28 100 27 z29 fun h30 =>
          cV (g_X9_scan h30) fun h31 =>
          cI (1) fun z32 =>
          retZW z32 h31) fun j21 =>
        loopF (g_X9_readFlag_l34 h18 j21) FU z19
def g_X9_readShape (h : Hp) : Option (Int × Hp) :=
  gF h 100 18 fun z1 =>
  cI (1) fun z2 =>
  andI z1 z2 fun z3 =>
  cI (1) fun z4 =>
  if z3 = z4 then
    cI (3) fun z29 =>
    cW (g_X9_bad z29 h) fun z30 h31 =>
    retZW z30 h31
  else
    gF h 100 27 fun z5 =>
    if z5 = 0 then
      gF h 100 18 fun z6 =>
      cI (1) fun z7 =>
      orI z6 z7 fun z8 =>
      pF h 100 18 z8 fun h9 =>
      cV (g_X9_scan h9) fun h10 =>
      cI (1) fun z11 =>
      cI (8) fun z12 =>
      cW (g_X9_number z11 z12 h10) fun z13 h14 =>
      if z13 = 0 then
        cI (0) fun z25 =>
        retZW z25 h14
      else
        gF h14 100 7 fun z15 =>
        pF h14 100 14 z15 fun h16 =>
        cI (1) fun z17 =>
        cI (8) fun z18 =>
        cW (g_X9_number z17 z18 h16) fun z19 h20 =>
        if z19 = 0 then
          cI (0) fun z24 =>
          retZW z24 h20
        else
          gF h20 100 7 fun z21 =>
          pF h20 100 15 z21 fun h22 =>
          cI (1) fun z23 =>
          retZW z23 h22
    else
      cI (5) fun z26 =>
      cW (g_X9_bad z26 h) fun z27 h28 =>
      retZW z27 h28
def g_X9_wordAt (h : Hp) : Option (Int) :=
  cP (g_X9_is (strC 26) h) fun z1 =>
  joinF (fun (a2 : Int) =>
    some a2) fun j3 =>
  if z1 = 0 then
    cP (g_X9_is (strC 27) h) fun z5 =>
    if z5 = 0 then
      cP (g_X9_is (strC 28) h) fun z6 =>
      if z6 = 0 then
        cP (g_X9_is (strC 29) h) fun z7 =>
        if z7 = 0 then
          cP (g_X9_is (strC 30) h) fun z8 =>
          if z8 = 0 then
            cP (g_X9_is (strC 31) h) fun z9 =>
            if z9 = 0 then
              cP (g_X9_is (strC 32) h) fun z10 =>
              if z10 = 0 then
                cI (-1) fun z11 =>
                j3 z11
              else
                cI (6) fun z12 =>
                j3 z12
            else
              cI (5) fun z13 =>
              j3 z13
          else
            cI (4) fun z14 =>
            j3 z14
        else
          cI (3) fun z15 =>
          j3 z15
      else
        cI (2) fun z16 =>
        j3 z16
    else
      cI (1) fun z17 =>
      j3 z17
  else
    cI (0) fun z18 =>
    j3 z18
def g_X9_readSmall_l17 (z1 : Int) (l17 : Int × Hp → Option (Int × Hp)) (q16 : Int × Hp) : Option (Int × Hp) :=
          cI (6) fun z20 =>
          joinF (fun (a21 : Int) =>
            if a21 < q16.1 then
              cI (1) fun z24 =>
              retZW z24 q16.2
            else
              cI (2) fun z25 =>
              joinF (fun (a26 : Int) =>
                cP (g_X9_greatest q16.1) fun z29 =>
                cW (g_X9_number a26 z29 q16.2) fun z30 h31 =>
                if z30 = 0 then
                  cI (0) fun z35 =>
                  retZW z35 h31
                else
                  gF h31 100 7 fun z32 =>
                  wrI h31 103 9 q16.1 z32 fun h33 =>
                  addI q16.1 (1) fun z34 =>
                  l17 (z34, h33)) fun j27 =>
              joinF (fun (a36 : Unit) =>
                cI (1) fun z38 =>
                j27 z38) fun j37 =>
              if q16.1 = z25 then
                j37 ()
              else
                cI (6) fun z39 =>
                if q16.1 = z39 then
                  j37 ()
                else
                  cI (0) fun z40 =>
                  j27 z40) fun j22 =>
          if z1 = z20 then
            cI (8) fun z41 =>
            j22 z41
          else
            j22 z1
def g_X9_readSmall (h : Hp) : Option (Int × Hp) :=
  cP (g_X9_wordAt h) fun z1 =>
  cI (-1) fun z2 =>
  if z1 = z2 then
    cI (1) fun z45 =>
    cW (g_X9_bad z45 h) fun z46 h47 =>
    retZW z46 h47
  else
    gF h 100 18 fun z3 =>
    cI (1) fun z4 =>
    addI z1 z4 fun z5 =>
    shrI z3 z5 fun z6 =>
    cI (1) fun z7 =>
    andI z6 z7 fun z8 =>
    cI (1) fun z9 =>
    if z8 = z9 then
      cI (3) fun z42 =>
      cW (g_X9_bad z42 h) fun z43 h44 =>
      retZW z43 h44
    else
      gF h 100 18 fun z10 =>
      cI (2) fun z11 =>
      shlI z11 z1 fun z12 =>
      orI z10 z12 fun z13 =>
      pF h 100 18 z13 fun h14 =>
      cV (g_X9_scan h14) fun h15 =>
      loopF (g_X9_readSmall_l17 z1) FU (z1, h15)
def g_X9_readBeach_l26 (j22 : Hp → Option (Int × Hp)) (l26 : Hp → Option (Int × Hp)) (q25 : Hp) : Option (Int × Hp) :=
          gF q25 100 5 fun z28 =>
          if z28 = 0 then
            cI (1) fun z29 =>
            retZW z29 q25
          else
            cP (g_X9_is (strC 22) q25) fun z30 =>
            joinF (fun (a31 : Int × Hp) =>
              if a31.1 = 0 then
                j22 a31.2
              else
                cW (g_X9_close a31.2) fun z35 h36 =>
                if z35 = 0 then
                  j22 h36
                else
                  gF h36 100 17 fun z37 =>
                  cI (1) fun z38 =>
                  addI z37 z38 fun z39 =>
                  pF h36 100 17 z39 fun h40 =>
                  l26 h40) fun j32 =>
            if z30 = 0 then
              cP (g_X9_is (strC 23) q25) fun z41 =>
              if z41 = 0 then
                cP (g_X9_is (strC 24) q25) fun z42 =>
                if z42 = 0 then
                  cP (g_X9_is (strC 25) q25) fun z43 =>
                  if z43 = 0 then
                    cW (g_X9_readSmall q25) fun z44 h45 =>
                    j32 (z44, h45)
                  else
                    cW (g_X9_readFlag q25) fun z46 h47 =>
                    j32 (z46, h47)
                else
                  cW (g_X9_readStone q25) fun z48 h49 =>
                  j32 (z48, h49)
              else
                cW (g_X9_readHeap q25) fun z50 h51 =>
                j32 (z50, h51)
            else
              cW (g_X9_readShape q25) fun z52 h53 =>
              j32 (z52, h53)
def g_X9_readBeach_l55 (j19 : Hp → Option (Int × Hp)) (l55 : Int × Hp → Option (Int × Hp)) (q54 : Int × Hp) : Option (Int × Hp) :=
        cI (64) fun z58 =>
        if z58 ≤ q54.1 then
          j19 q54.2
        else
          cI (0) fun z59 =>
          wrI q54.2 105 64 q54.1 z59 fun h60 =>
          cI (0) fun z61 =>
          wrZ h60 109 64 q54.1 z61 fun h62 =>
          addI q54.1 (1) fun z63 =>
          l55 (z63, h62)
def g_X9_readBeach_l65 (j15 : Hp → Option (Int × Hp)) (l65 : Int × Hp → Option (Int × Hp)) (q64 : Int × Hp) : Option (Int × Hp) :=
      cI (9) fun z68 =>
      if z68 ≤ q64.1 then
        j15 q64.2
      else
        cP (g_X9_usual q64.1) fun z69 =>
        wrI q64.2 103 9 q64.1 z69 fun h70 =>
        addI q64.1 (1) fun z71 =>
        l65 (z71, h70)
def g_X9_readBeach (h : Hp) : Option (Int × Hp) :=
  cI (5) fun z1 =>
  pF h 100 14 z1 fun h2 =>
  cI (5) fun z3 =>
  pF h2 100 15 z3 fun h4 =>
  cI (0) fun z5 =>
  pF h4 100 16 z5 fun h6 =>
  cI (0) fun z7 =>
  pF h6 100 18 z7 fun h8 =>
  cI (0) fun z9 =>
  pZ h8 100 27 z9 fun h10 =>
  cI (0) fun z11 =>
  pF h10 100 17 z11 fun h12 =>
  cI (0) fun z13 =>
  joinF (fun (a14 : Hp) =>
    cI (0) fun z17 =>
    joinF (fun (a18 : Hp) =>
      joinF (fun (a21 : Hp) =>
        cI (0) fun z24 =>
        retZW z24 a21) fun j22 =>
      loopF (g_X9_readBeach_l26 j22) FU a18) fun j19 =>
    loopF (g_X9_readBeach_l55 j19) FU (z17, a14)) fun j15 =>
  loopF (g_X9_readBeach_l65 j15) FU (z13, h12)
def g_X9_readWave (h : Hp) : Option (Int × Hp) :=
  gF h 100 30 fun z1 =>
  cI (12) fun z2 =>
  if z1 = z2 then
    cI (4) fun z43 =>
    cW (g_X9_bad z43 h) fun z44 h45 =>
    retZW z44 h45
  else
    cV (g_X9_scan h) fun h3 =>
    cI (0) fun z4 =>
    cI (359) fun z5 =>
    cW (g_X9_number z4 z5 h3) fun z6 h7 =>
    if z6 = 0 then
      cI (0) fun z42 =>
      retZW z42 h7
    else
      cI (3) fun z8 =>
      gF h7 100 30 fun z9 =>
      mulI z8 z9 fun z10 =>
      gF h7 100 7 fun z11 =>
      wrI h7 111 36 z10 z11 fun h12 =>
      cI (1) fun z13 =>
      cI (8) fun z14 =>
      cW (g_X9_number z13 z14 h12) fun z15 h16 =>
      if z15 = 0 then
        cI (0) fun z41 =>
        retZW z41 h16
      else
        cI (3) fun z17 =>
        gF h16 100 30 fun z18 =>
        mulI z17 z18 fun z19 =>
        cI (1) fun z20 =>
        addI z19 z20 fun z21 =>
        gF h16 100 7 fun z22 =>
        wrI h16 111 36 z21 z22 fun h23 =>
        cI (0) fun z24 =>
        cI (99) fun z25 =>
        cW (g_X9_number z24 z25 h23) fun z26 h27 =>
        if z26 = 0 then
          cI (0) fun z40 =>
          retZW z40 h27
        else
          cI (3) fun z28 =>
          gF h27 100 30 fun z29 =>
          mulI z28 z29 fun z30 =>
          cI (2) fun z31 =>
          addI z30 z31 fun z32 =>
          gF h27 100 7 fun z33 =>
          wrI h27 111 36 z32 z33 fun h34 =>
          gF h34 100 30 fun z35 =>
          cI (1) fun z36 =>
          addI z35 z36 fun z37 =>
          pF h34 100 30 z37 fun h38 =>
          cI (1) fun z39 =>
          retZW z39 h38
def g_X9_readTide (h : Hp) : Option (Int × Hp) :=
  cI (0) fun z1 =>
  cI (359) fun z2 =>
  cW (g_X9_number z1 z2 h) fun z3 h4 =>
  if z3 = 0 then
    cI (0) fun z33 =>
    retZW z33 h4
  else
    cI (0) fun z5 =>
    gF h4 100 7 fun z6 =>
    wrI h4 113 4 z5 z6 fun h7 =>
    gF h7 100 7 fun z8 =>
    cI (359) fun z9 =>
    cW (g_X9_number z8 z9 h7) fun z10 h11 =>
    if z10 = 0 then
      cI (0) fun z32 =>
      retZW z32 h11
    else
      cI (1) fun z12 =>
      gF h11 100 7 fun z13 =>
      wrI h11 113 4 z12 z13 fun h14 =>
      cI (1) fun z15 =>
      cI (60) fun z16 =>
      cW (g_X9_number z15 z16 h14) fun z17 h18 =>
      if z17 = 0 then
        cI (0) fun z31 =>
        retZW z31 h18
      else
        cI (2) fun z19 =>
        gF h18 100 7 fun z20 =>
        wrI h18 113 4 z19 z20 fun h21 =>
        cI (0) fun z22 =>
        cI (100) fun z23 =>
        cW (g_X9_number z22 z23 h21) fun z24 h25 =>
        if z24 = 0 then
          cI (0) fun z30 =>
          retZW z30 h25
        else
          cI (3) fun z26 =>
          gF h25 100 7 fun z27 =>
          wrI h25 113 4 z26 z27 fun h28 =>
          cI (1) fun z29 =>
          retZW z29 h28
def g_X9_readTwo (b1 : Nat) (x2 : Int) (x3 : Int) (h : Hp) : Option (Int × Hp) :=
  cW (g_X9_number x2 x3 h) fun z1 h2 =>
  if z1 = 0 then
    cI (0) fun z14 =>
    retZW z14 h2
  else
    cI (0) fun z3 =>
    gF h2 100 7 fun z4 =>
    wrI h2 b1 2 z3 z4 fun h5 =>
    gF h5 100 7 fun z6 =>
    cW (g_X9_number z6 x3 h5) fun z7 h8 =>
    if z7 = 0 then
      cI (0) fun z13 =>
      retZW z13 h8
    else
      cI (1) fun z9 =>
      gF h8 100 7 fun z10 =>
      wrI h8 b1 2 z9 z10 fun h11 =>
      cI (1) fun z12 =>
      retZW z12 h11
def g_X9_readSeaWord (h : Hp) : Option (Int × Hp) :=
  cP (g_X9_is (strC 34) h) fun z1 =>
  joinF (fun (a2 : Int) =>
    cI (-1) fun z5 =>
    if a2 = z5 then
      cI (1) fun z40 =>
      cW (g_X9_bad z40 h) fun z41 h42 =>
      retZW z41 h42
    else
      gF h 100 18 fun z6 =>
      shrI z6 a2 fun z7 =>
      cI (1) fun z8 =>
      andI z7 z8 fun z9 =>
      cI (1) fun z10 =>
      if z9 = z10 then
        cI (3) fun z37 =>
        cW (g_X9_bad z37 h) fun z38 h39 =>
        retZW z38 h39
      else
        gF h 100 18 fun z11 =>
        cI (1) fun z12 =>
        shlI z12 a2 fun z13 =>
        orI z11 z13 fun z14 =>
        pF h 100 18 z14 fun h15 =>
        cV (g_X9_scan h15) fun h16 =>
        if a2 = 0 then
          cW (g_X9_readTide h16) fun z35 h36 =>
          retZW z35 h36
        else
          cI (1) fun z17 =>
          if a2 = z17 then
            cI (1) fun z31 =>
            cI (8) fun z32 =>
            cW (g_X9_readTwo 116 z31 z32 h16) fun z33 h34 =>
            retZW z33 h34
          else
            cI (2) fun z18 =>
            if a2 = z18 then
              cI (0) fun z27 =>
              cI (99) fun z28 =>
              cW (g_X9_readTwo 117 z27 z28 h16) fun z29 h30 =>
              retZW z29 h30
            else
              cI (0) fun z19 =>
              cI (9) fun z20 =>
              cW (g_X9_number z19 z20 h16) fun z21 h22 =>
              if z21 = 0 then
                cI (0) fun z26 =>
                retZW z26 h22
              else
                gF h22 100 7 fun z23 =>
                pF h22 100 40 z23 fun h24 =>
                cI (1) fun z25 =>
                retZW z25 h24) fun j3 =>
  if z1 = 0 then
    cP (g_X9_is (strC 35) h) fun z43 =>
    if z43 = 0 then
      cP (g_X9_is (strC 36) h) fun z44 =>
      if z44 = 0 then
        cP (g_X9_is (strC 37) h) fun z45 =>
        if z45 = 0 then
          cI (-1) fun z46 =>
          j3 z46
        else
          cI (3) fun z47 =>
          j3 z47
      else
        cI (2) fun z48 =>
        j3 z48
    else
      cI (1) fun z49 =>
      j3 z49
  else
    cI (0) fun z50 =>
    j3 z50
def g_X9_readSea_l30 (j26 : Hp → Option (Int × Hp)) (l30 : Hp → Option (Int × Hp)) (q29 : Hp) : Option (Int × Hp) :=
        gF q29 100 5 fun z32 =>
        if z32 = 0 then
          cI (1) fun z33 =>
          retZW z33 q29
        else
          cP (g_X9_is (strC 33) q29) fun z34 =>
          joinF (fun (a35 : Hp) =>
            cW (g_X9_close a35) fun z38 h39 =>
            if z38 = 0 then
              j26 h39
            else
              gF h39 100 17 fun z40 =>
              cI (1) fun z41 =>
              addI z40 z41 fun z42 =>
              pF h39 100 17 z42 fun h43 =>
              l30 h43) fun j36 =>
          if z34 = 0 then
            cW (g_X9_readSeaWord q29) fun z44 h45 =>
            if z44 = 0 then
              j26 h45
            else
              j36 h45
          else
            cW (g_X9_readWave q29) fun z46 h47 =>
            if z46 = 0 then
              j26 h47
            else
              j36 h47
def g_X9_readSea_l49 (j9 : Hp → Option (Int × Hp)) (l49 : Int × Hp → Option (Int × Hp)) (q48 : Int × Hp) : Option (Int × Hp) :=
      cI (4) fun z52 =>
      if z52 ≤ q48.1 then
        j9 q48.2
      else
        cI (-1) fun z53 =>
        wrI q48.2 113 4 q48.1 z53 fun h54 =>
        addI q48.1 (1) fun z55 =>
        l49 (z55, h54)
def g_X9_readSea (h : Hp) : Option (Int × Hp) :=
  cI (0) fun z1 =>
  pF h 100 30 z1 fun h2 =>
  cI (0) fun z3 =>
  pF h2 100 18 z3 fun h4 =>
  cI (0) fun z5 =>
  pF h4 100 17 z5 fun h6 =>
  cI (0) fun z7 =>
  joinF (fun (a8 : Hp) =>
    cI (0) fun z11 =>
    cI (1) fun z12 =>
    wrI a8 116 2 z11 z12 fun h13 =>
    cI (1) fun z14 =>
    cI (3) fun z15 =>
    wrI h13 116 2 z14 z15 fun h16 =>
    cI (0) fun z17 =>
    cI (4) fun z18 =>
    wrI h16 117 2 z17 z18 fun h19 =>
    cI (1) fun z20 =>
    cI (8) fun z21 =>
    wrI h19 117 2 z20 z21 fun h22 =>
    cI (1) fun z23 =>
    pF h22 100 40 z23 fun h24 =>
    joinF (fun (a25 : Hp) =>
      cI (0) fun z28 =>
      retZW z28 a25) fun j26 =>
    loopF (g_X9_readSea_l30 j26) FU h24) fun j9 =>
  loopF (g_X9_readSea_l49 j9) FU (z7, h6)
def g_X9_readCell (h : Hp) : Option (Int × Hp) :=
  cI (0) fun z1 =>
  gF h 100 10 fun z2 =>
  cI (1) fun z3 =>
  subI z2 z3 fun z4 =>
  cW (g_X9_number z1 z4 h) fun z5 h6 =>
  joinF (fun (a7 : Hp) =>
    cI (0) fun z10 =>
    retZW z10 a7) fun j8 =>
  if z5 = 0 then
    j8 h6
  else
    gF h6 100 7 fun z11 =>
    gF h6 100 10 fun z12 =>
    gF h6 100 11 fun z13 =>
    cW (g_X9_cellAt z11 z12 z13 h6) fun z14 h15 =>
    if z14 = 0 then
      j8 h15
    else
      cI (1) fun z16 =>
      retZW z16 h15
def g_X9_readAct (x1 : Int) (x2 : Int) (h : Hp) : Option (Int × Hp) :=
  cV (g_X9_scan h) fun h1 =>
  wrI h1 120 288 x1 x2 fun h2 =>
  cI (1) fun z3 =>
  addI x1 z3 fun z4 =>
  cI (-1) fun z5 =>
  wrI h2 120 288 z4 z5 fun h6 =>
  cI (2) fun z7 =>
  addI x1 z7 fun z8 =>
  cI (-1) fun z9 =>
  wrI h6 120 288 z8 z9 fun h10 =>
  cI (3) fun z11 =>
  if x2 ≤ z11 then
    cW (g_X9_readCell h10) fun z12 h13 =>
    if z12 = 0 then
      cI (0) fun z36 =>
      retZW z36 h13
    else
      cI (1) fun z14 =>
      addI x1 z14 fun z15 =>
      gF h13 100 7 fun z16 =>
      wrI h13 120 288 z15 z16 fun h17 =>
      cV (g_X9_scan h17) fun h18 =>
      if x2 = 0 then
        cW (g_X9_readCell h18) fun z19 h20 =>
        if z19 = 0 then
          cI (0) fun z34 =>
          retZW z34 h20
        else
          gF h20 100 7 fun z21 =>
          cI (1) fun z22 =>
          addI x1 z22 fun z23 =>
          rdI h20 120 288 z23 fun z24 =>
          if z21 = z24 then
            cI (3) fun z31 =>
            cW (g_X9_bad z31 h20) fun z32 h33 =>
            retZW z32 h33
          else
            cI (2) fun z25 =>
            addI x1 z25 fun z26 =>
            gF h20 100 7 fun z27 =>
            wrI h20 120 288 z26 z27 fun h28 =>
            cV (g_X9_scan h28) fun h29 =>
            cI (1) fun z30 =>
            retZW z30 h29
      else
        cI (1) fun z35 =>
        retZW z35 h18
  else
    cI (1) fun z37 =>
    retZW z37 h10
def g_X9_actAt (h : Hp) : Option (Int) :=
  cP (g_X9_is (strC 39) h) fun z1 =>
  joinF (fun (a2 : Int) =>
    some a2) fun j3 =>
  if z1 = 0 then
    cP (g_X9_is (strC 27) h) fun z5 =>
    if z5 = 0 then
      cP (g_X9_is (strC 40) h) fun z6 =>
      if z6 = 0 then
        cP (g_X9_is (strC 41) h) fun z7 =>
        if z7 = 0 then
          cP (g_X9_is (strC 42) h) fun z8 =>
          if z8 = 0 then
            cI (-1) fun z9 =>
            j3 z9
          else
            cI (4) fun z10 =>
            j3 z10
        else
          cI (3) fun z11 =>
          j3 z11
      else
        cI (2) fun z12 =>
        j3 z12
    else
      cI (1) fun z13 =>
      j3 z13
  else
    cI (0) fun z14 =>
    j3 z14
def g_X9_readHand_l24 (j16 : Hp → Option (Int × Hp)) (z8 : Int) (l24 : Int × Hp → Option (Int × Hp)) (q23 : Int × Hp) : Option (Int × Hp) :=
            cI (-1) fun z27 =>
            if q23.1 = z27 then
              j16 q23.2
            else
              rdI q23.2 119 12 z8 fun z28 =>
              cI (8) fun z29 =>
              if z28 = z29 then
                cI (4) fun z44 =>
                cW (g_X9_bad z44 q23.2) fun z45 h46 =>
                retZW z45 h46
              else
                cI (3) fun z30 =>
                cI (8) fun z31 =>
                mulI z31 z8 fun z32 =>
                rdI q23.2 119 12 z8 fun z33 =>
                addI z32 z33 fun z34 =>
                mulI z30 z34 fun z35 =>
                cW (g_X9_readAct z35 q23.1 q23.2) fun z36 h37 =>
                if z36 = 0 then
                  cI (0) fun z43 =>
                  retZW z43 h37
                else
                  rdI h37 119 12 z8 fun z38 =>
                  cI (1) fun z39 =>
                  addI z38 z39 fun z40 =>
                  wrI h37 119 12 z8 z40 fun h41 =>
                  cP (g_X9_actAt h41) fun z42 =>
                  l24 (z42, h41)
def g_X9_readHand (h : Hp) : Option (Int × Hp) :=
  cP (g_X9_is (strC 38) h) fun z1 =>
  if z1 = 0 then
    cI (1) fun z53 =>
    cW (g_X9_bad z53 h) fun z54 h55 =>
    retZW z54 h55
  else
    gF h 100 42 fun z2 =>
    cI (4) fun z3 =>
    if z2 = z3 then
      cI (4) fun z50 =>
      cW (g_X9_bad z50 h) fun z51 h52 =>
      retZW z51 h52
    else
      cI (4) fun z4 =>
      gF h 100 41 fun z5 =>
      mulI z4 z5 fun z6 =>
      gF h 100 42 fun z7 =>
      addI z6 z7 fun z8 =>
      cV (g_X9_scan h) fun h9 =>
      cI (0) fun z10 =>
      wrI h9 119 12 z8 z10 fun h11 =>
      cP (g_X9_actAt h11) fun z12 =>
      cI (-1) fun z13 =>
      if z12 = z13 then
        cI (1) fun z47 =>
        cW (g_X9_bad z47 h11) fun z48 h49 =>
        retZW z48 h49
      else
        cP (g_X9_actAt h11) fun z14 =>
        joinF (fun (a15 : Hp) =>
          gF a15 100 42 fun z18 =>
          cI (1) fun z19 =>
          addI z18 z19 fun z20 =>
          pF a15 100 42 z20 fun h21 =>
          cI (1) fun z22 =>
          retZW z22 h21) fun j16 =>
        loopF (g_X9_readHand_l24 j16 z8) FU (z14, h11)
def g_X9_readPlan_l8 (j4 : Hp → Option (Int × Hp)) (l8 : Hp → Option (Int × Hp)) (q7 : Hp) : Option (Int × Hp) :=
      gF q7 100 5 fun z10 =>
      if z10 = 0 then
        cI (1) fun z11 =>
        retZW z11 q7
      else
        cW (g_X9_readHand q7) fun z12 h13 =>
        if z12 = 0 then
          j4 h13
        else
          cW (g_X9_close h13) fun z14 h15 =>
          if z14 = 0 then
            j4 h15
          else
            l8 h15
def g_X9_readPlan (h : Hp) : Option (Int × Hp) :=
  cI (0) fun z1 =>
  pF h 100 42 z1 fun h2 =>
  joinF (fun (a3 : Hp) =>
    cI (0) fun z6 =>
    retZW z6 a3) fun j4 =>
  loopF (g_X9_readPlan_l8 j4) FU h2
def g_X9_putFlag (b1 : Nat) (x2 : Int) (h : Hp) : Option (Hp) :=
  cI (268) fun z1 =>
  rdI h b1 289 z1 fun z2 =>
  cI (256) fun z3 =>
  addI z3 z2 fun z4 =>
  wrI h b1 289 z4 x2 fun h5 =>
  cI (260) fun z6 =>
  addI z6 z2 fun z7 =>
  cI (0) fun z8 =>
  addI z8 x2 fun z9 =>
  rdI h5 b1 289 z9 fun z10 =>
  wrI h5 b1 289 z7 z10 fun h11 =>
  cI (264) fun z12 =>
  addI z12 z2 fun z13 =>
  cI (-1) fun z14 =>
  wrI h11 b1 289 z13 z14 fun h15 =>
  cI (268) fun z16 =>
  rdI h15 b1 289 z16 fun z17 =>
  cI (1) fun z18 =>
  addI z17 z18 fun z19 =>
  wrI h15 b1 289 z16 z19 fun h20 =>
  some h20
def g_X9_beginNow_l21 (j13 : Hp → Option (Hp)) (l21 : Int × Hp → Option (Hp)) (q20 : Int × Hp) : Option (Hp) :=
          gF q20.2 100 12 fun z24 =>
          if z24 ≤ q20.1 then
            j13 q20.2
          else
            rdI q20.2 106 3 q20.1 fun z25 =>
            cV (g_X9_putFlag 121 z25 q20.2) fun h26 =>
            addI q20.1 (1) fun z27 =>
            l21 (z27, h26)
def g_X9_beginNow_l29 (j9 : Hp → Option (Hp)) (l29 : Int × Hp → Option (Hp)) (q28 : Int × Hp) : Option (Hp) :=
        gF q28.2 100 10 fun z32 =>
        gF q28.2 100 11 fun z33 =>
        mulI z32 z33 fun z34 =>
        if z34 ≤ q28.1 then
          j9 q28.2
        else
          cI (0) fun z35 =>
          addI z35 q28.1 fun z36 =>
          cI (0) fun z37 =>
          rdI q28.2 102 9 z37 fun z38 =>
          rdI q28.2 104 64 q28.1 fun z39 =>
          addI z38 z39 fun z40 =>
          wrI q28.2 121 289 z36 z40 fun h41 =>
          cI (64) fun z42 =>
          addI z42 q28.1 fun z43 =>
          cI (3) fun z44 =>
          rdI h41 102 9 z44 fun z45 =>
          wrI h41 121 289 z43 z45 fun h46 =>
          cI (192) fun z47 =>
          addI z47 q28.1 fun z48 =>
          rdI h46 108 64 q28.1 fun z49 =>
          joinF (fun (a50 : Int) =>
            wrI h46 121 289 z48 a50 fun h53 =>
            addI q28.1 (1) fun z54 =>
            l29 (z54, h53)) fun j51 =>
          if z49 = 0 then
            cI (0) fun z55 =>
            j51 z55
          else
            cI (1) fun z56 =>
            j51 z56
def g_X9_beginNow_l58 (j5 : Hp → Option (Hp)) (l58 : Int × Hp → Option (Hp)) (q57 : Int × Hp) : Option (Hp) :=
      cI (289) fun z61 =>
      if z61 ≤ q57.1 then
        j5 q57.2
      else
        cI (0) fun z62 =>
        wrI q57.2 121 289 q57.1 z62 fun h63 =>
        addI q57.1 (1) fun z64 =>
        l58 (z64, h63)
def g_X9_beginNow (h : Hp) : Option (Hp) :=
  cI (288) fun z1 =>
  rdI h 121 289 z1 fun z2 =>
  cI (0) fun z3 =>
  joinF (fun (a4 : Hp) =>
    cI (0) fun z7 =>
    joinF (fun (a8 : Hp) =>
      cI (0) fun z11 =>
      joinF (fun (a12 : Hp) =>
        cI (275) fun z15 =>
        cI (-1) fun z16 =>
        wrI a12 121 289 z15 z16 fun h17 =>
        cI (288) fun z18 =>
        wrI h17 121 289 z18 z2 fun h19 =>
        some h19) fun j13 =>
      loopF (g_X9_beginNow_l21 j13) FU (z11, a8)) fun j9 =>
    loopF (g_X9_beginNow_l29 j9) FU (z7, a4)) fun j5 =>
  loopF (g_X9_beginNow_l58 j5) FU (z3, h)
def g_X9_putFour_l3 (x1 : Int) (l3 : Int × Hp → Option (Hp)) (q2 : Int × Hp) : Option (Hp) :=
      if q2.1 < 0 then
        some q2.2
      else
        gF q2.2 100 1 fun z6 =>
        shrI x1 q2.1 fun z7 =>
        i2bI z7 fun z8 =>
        wrB q2.2 101 900 z6 z8 fun h9 =>
        gF h9 100 1 fun z10 =>
        cI (1) fun z11 =>
        addI z10 z11 fun z12 =>
        pF h9 100 1 z12 fun h13 =>
        addI q2.1 (-8) fun z14 =>
        l3 (z14, h13)
def g_X9_putFour (x1 : Int) (h : Hp) : Option (Hp) :=
  cI (24) fun z1 =>
  loopF (g_X9_putFour_l3 x1) FU (z1, h)
def g_X9_feed (x1 : Int) (x2 : Int) (x3 : Int) (x4 : Int) (x5 : Int) (h : Hp) : Option (Int × Hp) :=
  gF h 100 1 fun z1 =>
  cI (20) fun z2 =>
  addI z1 z2 fun z3 =>
  cI (900) fun z4 =>
  if z3 ≤ z4 then
    cV (g_X9_putFour x1 h) fun h5 =>
    cV (g_X9_putFour x2 h5) fun h6 =>
    cV (g_X9_putFour x3 h6) fun h7 =>
    cV (g_X9_putFour x4 h7) fun h8 =>
    cV (g_X9_putFour x5 h8) fun h9 =>
    gF h9 100 1 fun z10 =>
    some (z10, h9)
  else
    cI (-3) fun z11 =>
    some (z11, h)
def g_X9_end (x1 : Int) (h : Hp) : Option (Int × Hp) :=
  i2lI x1 fun z1 =>
  cI (0) fun z2 =>
  gF h 100 1 fun z3 =>
  i2lI z3 fun z4 =>
  cP (g_X9_in z1 z2 z4) fun z5 =>
  if z5 = 0 then
    cI (-1) fun z7 =>
    some (z7, h)
  else
    pF h 100 1 x1 fun h6 =>
    some (x1, h6)
def g_X9_beach_l28  (l28 : Int × Hp → Option (Int × Hp)) (q27 : Int × Hp) : Option (Int × Hp) :=
              cI (3) fun z31 =>
              if z31 ≤ q27.1 then
                cV (g_X9_beginNow q27.2) fun h32 =>
                gF h32 100 13 fun z33 =>
                some (z33, h32)
              else
                cI (0) fun z34 =>
                wrZ q27.2 124 3 q27.1 z34 fun h35 =>
                addI q27.1 (1) fun z36 =>
                l28 (z36, h35)
def g_X9_beach_l38 (j22 : Hp → Option (Int × Hp)) (l38 : Int × Hp → Option (Int × Hp)) (q37 : Int × Hp) : Option (Int × Hp) :=
            gF q37.2 100 12 fun z41 =>
            if z41 ≤ q37.1 then
              j22 q37.2
            else
              rdI q37.2 107 3 q37.1 fun z42 =>
              wrI q37.2 106 3 q37.1 z42 fun h43 =>
              addI q37.1 (1) fun z44 =>
              l38 (z44, h43)
def g_X9_beach_l46 (j18 : Hp → Option (Int × Hp)) (l46 : Int × Hp → Option (Int × Hp)) (q45 : Int × Hp) : Option (Int × Hp) :=
          cI (64) fun z49 =>
          if z49 ≤ q45.1 then
            j18 q45.2
          else
            rdI q45.2 105 64 q45.1 fun z50 =>
            wrI q45.2 104 64 q45.1 z50 fun h51 =>
            rdI h51 109 64 q45.1 fun z52 =>
            wrZ h51 108 64 q45.1 z52 fun h53 =>
            addI q45.1 (1) fun z54 =>
            l46 (z54, h53)
def g_X9_beach_l56 (j14 : Hp → Option (Int × Hp)) (l56 : Int × Hp → Option (Int × Hp)) (q55 : Int × Hp) : Option (Int × Hp) :=
        cI (9) fun z59 =>
        if z59 ≤ q55.1 then
          j14 q55.2
        else
          rdI q55.2 103 9 q55.1 fun z60 =>
          wrI q55.2 102 9 q55.1 z60 fun h61 =>
          addI q55.1 (1) fun z62 =>
          l56 (z62, h61)
def g_X9_beach (h : Hp) : Option (Int × Hp) :=
  cV (g_X9_open h) fun h1 =>
  cW (g_X9_readBeach h1) fun z2 h3 =>
  if z2 = 0 then
    cI (-1) fun z63 =>
    some (z63, h3)
  else
    gF h3 100 14 fun z4 =>
    pF h3 100 10 z4 fun h5 =>
    gF h5 100 15 fun z6 =>
    pF h5 100 11 z6 fun h7 =>
    gF h7 100 16 fun z8 =>
    pF h7 100 12 z8 fun h9 =>
    gF h9 100 17 fun z10 =>
    pF h9 100 13 z10 fun h11 =>
    cI (0) fun z12 =>
    joinF (fun (a13 : Hp) =>
      cI (0) fun z16 =>
      joinF (fun (a17 : Hp) =>
        cI (0) fun z20 =>
        joinF (fun (a21 : Hp) =>
          cI (0) fun z24 =>
          pF a21 100 41 z24 fun h25 =>
          cI (0) fun z26 =>
          loopF (g_X9_beach_l28 ) FU (z26, h25)) fun j22 =>
        loopF (g_X9_beach_l38 j22) FU (z20, a17)) fun j18 =>
      loopF (g_X9_beach_l46 j18) FU (z16, a13)) fun j14 =>
    loopF (g_X9_beach_l56 j14) FU (z12, h11)
def g_X9_sea_l24 (j18 : Hp → Option (Int × Hp)) (l24 : Int × Hp → Option (Int × Hp)) (q23 : Int × Hp) : Option (Int × Hp) :=
            cI (2) fun z27 =>
            if z27 ≤ q23.1 then
              j18 q23.2
            else
              rdI q23.2 116 2 q23.1 fun z28 =>
              wrI q23.2 114 2 q23.1 z28 fun h29 =>
              rdI h29 117 2 q23.1 fun z30 =>
              wrI h29 115 2 q23.1 z30 fun h31 =>
              addI q23.1 (1) fun z32 =>
              l24 (z32, h31)
def g_X9_sea_l34 (j14 : Hp → Option (Int × Hp)) (l34 : Int × Hp → Option (Int × Hp)) (q33 : Int × Hp) : Option (Int × Hp) :=
          cI (4) fun z37 =>
          if z37 ≤ q33.1 then
            j14 q33.2
          else
            rdI q33.2 113 4 q33.1 fun z38 =>
            wrI q33.2 112 4 q33.1 z38 fun h39 =>
            addI q33.1 (1) fun z40 =>
            l34 (z40, h39)
def g_X9_sea_l42 (j10 : Hp → Option (Int × Hp)) (l42 : Int × Hp → Option (Int × Hp)) (q41 : Int × Hp) : Option (Int × Hp) :=
        cI (3) fun z45 =>
        gF q41.2 100 28 fun z46 =>
        mulI z45 z46 fun z47 =>
        if z47 ≤ q41.1 then
          j10 q41.2
        else
          rdI q41.2 111 36 q41.1 fun z48 =>
          wrI q41.2 110 36 q41.1 z48 fun h49 =>
          addI q41.1 (1) fun z50 =>
          l42 (z50, h49)
def g_X9_sea (h : Hp) : Option (Int × Hp) :=
  cV (g_X9_open h) fun h1 =>
  cW (g_X9_readSea h1) fun z2 h3 =>
  if z2 = 0 then
    cI (-1) fun z51 =>
    some (z51, h3)
  else
    gF h3 100 30 fun z4 =>
    pF h3 100 28 z4 fun h5 =>
    gF h5 100 17 fun z6 =>
    pF h5 100 29 z6 fun h7 =>
    cI (0) fun z8 =>
    joinF (fun (a9 : Hp) =>
      cI (0) fun z12 =>
      joinF (fun (a13 : Hp) =>
        cI (0) fun z16 =>
        joinF (fun (a17 : Hp) =>
          gF a17 100 40 fun z20 =>
          pF a17 100 39 z20 fun h21 =>
          gF h21 100 29 fun z22 =>
          some (z22, h21)) fun j18 =>
        loopF (g_X9_sea_l24 j18) FU (z16, a13)) fun j14 =>
      loopF (g_X9_sea_l34 j14) FU (z12, a9)) fun j10 =>
    loopF (g_X9_sea_l42 j10) FU (z8, h7)
def g_X9_plan (h : Hp) : Option (Int × Hp) :=
  gF h 100 41 fun z1 =>
  cI (3) fun z2 =>
  if z1 = z2 then
    cI (0) fun z17 =>
    pF h 100 1 z17 fun h18 =>
    cI (-3) fun z19 =>
    some (z19, h18)
  else
    cV (g_X9_open h) fun h3 =>
    cW (g_X9_readPlan h3) fun z4 h5 =>
    if z4 = 0 then
      cI (-1) fun z16 =>
      some (z16, h5)
    else
      gF h5 100 41 fun z6 =>
      gF h5 100 42 fun z7 =>
      wrI h5 118 3 z6 z7 fun h8 =>
      gF h8 100 41 fun z9 =>
      cI (1) fun z10 =>
      addI z9 z10 fun z11 =>
      pF h8 100 41 z11 fun h12 =>
      gF h12 100 41 fun z13 =>
      cI (1) fun z14 =>
      subI z13 z14 fun z15 =>
      some (z15, h12)
def g_X9_fault (x1 : Int) (h : Hp) : Option (Int) :=
  joinF (fun (a1 : Int) =>
    some a1) fun j2 =>
  if x1 = 0 then
    gF h 100 8 fun z7 =>
    j2 z7
  else
    cI (1) fun z4 =>
    if x1 = z4 then
      gF h 100 9 fun z6 =>
      j2 z6
    else
      cI (-1) fun z5 =>
      j2 z5
def g_X9_told (x1 : Int) (h : Hp) : Option (Int) :=
  i2lI x1 fun z1 =>
  cI (2) fun z2 =>
  cI (10) fun z3 =>
  cP (g_X9_in z1 z2 z3) fun z4 =>
  if z4 = 0 then
    i2lI x1 fun z5 =>
    cI (13) fun z6 =>
    cI (16) fun z7 =>
    cP (g_X9_in z5 z6 z7) fun z8 =>
    if z8 = 0 then
      joinF (fun (a9 : Unit) =>
        cI (-1) fun z11 =>
        some z11) fun j10 =>
      if x1 = 0 then
        gF h 100 10 fun z13 =>
        some z13
      else
      if x1 = 1 then
        gF h 100 11 fun z15 =>
        some z15
      else
      if x1 = 2 then
        j10 ()
      else
      if x1 = 3 then
        j10 ()
      else
      if x1 = 4 then
        j10 ()
      else
      if x1 = 5 then
        j10 ()
      else
      if x1 = 6 then
        j10 ()
      else
      if x1 = 7 then
        j10 ()
      else
      if x1 = 8 then
        j10 ()
      else
      if x1 = 9 then
        j10 ()
      else
      if x1 = 10 then
        j10 ()
      else
      if x1 = 11 then
        gF h 100 12 fun z26 =>
        some z26
      else
      if x1 = 12 then
        gF h 100 28 fun z28 =>
        some z28
      else
      if x1 = 13 then
        j10 ()
      else
      if x1 = 14 then
        j10 ()
      else
      if x1 = 15 then
        j10 ()
      else
      if x1 = 16 then
        j10 ()
      else
      if x1 = 17 then
        cI (0) fun z34 =>
        rdI h 114 2 z34 fun z35 =>
        some z35
      else
      if x1 = 18 then
        cI (1) fun z37 =>
        rdI h 114 2 z37 fun z38 =>
        some z38
      else
      if x1 = 19 then
        cI (0) fun z40 =>
        rdI h 115 2 z40 fun z41 =>
        some z41
      else
      if x1 = 20 then
        cI (1) fun z43 =>
        rdI h 115 2 z43 fun z44 =>
        some z44
      else
      if x1 = 21 then
        gF h 100 39 fun z46 =>
        some z46
      else
      if x1 = 22 then
        gF h 100 41 fun z48 =>
        some z48
      else
      if x1 = 23 then
        cI (275) fun z50 =>
        rdI h 121 289 z50 fun z51 =>
        some z51
      else
      j10 ()
    else
      cI (13) fun z52 =>
      subI x1 z52 fun z53 =>
      rdI h 112 4 z53 fun z54 =>
      some z54
  else
    cI (2) fun z55 =>
    subI x1 z55 fun z56 =>
    rdI h 102 9 z56 fun z57 =>
    some z57
def g_X9_wave (x1 : Int) (x2 : Int) (h : Hp) : Option (Int) :=
  i2lI x1 fun z1 =>
  cI (0) fun z2 =>
  gF h 100 28 fun z3 =>
  i2lI z3 fun z4 =>
  cI (1) fun z5 =>
  lsubI z4 z5 fun z6 =>
  cP (g_X9_in z1 z2 z6) fun z7 =>
  joinF (fun (a8 : Int) =>
    some a8) fun j9 =>
  joinF (fun (a11 : Unit) =>
    cI (-2) fun z13 =>
    j9 z13) fun j12 =>
  if z7 = 0 then
    j12 ()
  else
    i2lI x2 fun z14 =>
    cI (0) fun z15 =>
    cI (2) fun z16 =>
    cP (g_X9_in z14 z15 z16) fun z17 =>
    if z17 = 0 then
      j12 ()
    else
      cI (3) fun z18 =>
      mulI z18 x1 fun z19 =>
      addI z19 x2 fun z20 =>
      rdI h 110 36 z20 fun z21 =>
      j9 z21
def g_X9_isPlan (x1 : Int) (h : Hp) : Option (Int) :=
  i2lI x1 fun z1 =>
  cI (0) fun z2 =>
  gF h 100 41 fun z3 =>
  i2lI z3 fun z4 =>
  cI (1) fun z5 =>
  lsubI z4 z5 fun z6 =>
  cP (g_X9_in z1 z2 z6) fun z7 =>
  retZ z7
def g_X9_act (x1 : Int) (x2 : Int) (x3 : Int) (x4 : Int) (h : Hp) : Option (Int) :=
  cP (g_X9_isPlan x1 h) fun z1 =>
  if z1 = 0 then
    cI (-2) fun z41 =>
    some z41
  else
    cI (-1) fun z2 =>
    if x2 = z2 then
      rdI h 118 3 x1 fun z40 =>
      some z40
    else
      i2lI x2 fun z3 =>
      cI (0) fun z4 =>
      rdI h 118 3 x1 fun z5 =>
      i2lI z5 fun z6 =>
      cI (1) fun z7 =>
      lsubI z6 z7 fun z8 =>
      cP (g_X9_in z3 z4 z8) fun z9 =>
      if z9 = 0 then
        cI (-2) fun z39 =>
        some z39
      else
        cI (4) fun z10 =>
        mulI z10 x1 fun z11 =>
        addI z11 x2 fun z12 =>
        cI (-1) fun z13 =>
        if x3 = z13 then
          rdI h 119 12 z12 fun z38 =>
          some z38
        else
          i2lI x3 fun z14 =>
          cI (0) fun z15 =>
          rdI h 119 12 z12 fun z16 =>
          i2lI z16 fun z17 =>
          cI (1) fun z18 =>
          lsubI z17 z18 fun z19 =>
          cP (g_X9_in z14 z15 z19) fun z20 =>
          joinF (fun (a21 : Int) =>
            some a21) fun j22 =>
          joinF (fun (a24 : Unit) =>
            cI (-2) fun z26 =>
            j22 z26) fun j25 =>
          if z20 = 0 then
            j25 ()
          else
            i2lI x4 fun z27 =>
            cI (0) fun z28 =>
            cI (2) fun z29 =>
            cP (g_X9_in z27 z28 z29) fun z30 =>
            if z30 = 0 then
              j25 ()
            else
              cI (3) fun z31 =>
              cI (8) fun z32 =>
              mulI z32 z12 fun z33 =>
              addI z33 x3 fun z34 =>
              mulI z31 z34 fun z35 =>
              addI z35 x4 fun z36 =>
              rdI h 120 288 z36 fun z37 =>
              j22 z37
def g_X9_strength (x1 : Int) (h : Hp) : Option (Int) :=
  joinF (fun (a1 : Int) =>
    some a1) fun j2 =>
  joinF (fun (a4 : Unit) =>
    cI (0) fun z6 =>
    j2 z6) fun j5 =>
  if x1 = 0 then
    j5 ()
  else
    cI (16) fun z7 =>
    if x1 = z7 then
      j5 ()
    else
      cI (0) fun z8 =>
      cI (7) fun z9 =>
      rdI h 102 9 z9 fun z10 =>
      cI (8) fun z11 =>
      rdI h 102 9 z11 fun z12 =>
      cI (6) fun z13 =>
      rdI h 102 9 z13 fun z14 =>
      subI x1 z14 fun z15 =>
      absI z15 fun z16 =>
      mulI z12 z16 fun z17 =>
      subI z10 z17 fun z18 =>
      maxI z8 z18 fun z19 =>
      j2 z19
def g_X9_holdsOf (x1 : Int) (x2 : Int) (h : Hp) : Option (Int) :=
  cI (1) fun z1 =>
  cP (g_X9_strength x1 h) fun z2 =>
  addI z1 z2 fun z3 =>
  cI (1) fun z4 =>
  rdI h 102 9 z4 fun z5 =>
  mulI z5 x2 fun z6 =>
  addI z3 z6 fun z7 =>
  some z7
def g_X9_unitGoes (b1 : Nat) (x2 : Int) (x3 : Int) (h : Hp) : Option (Hp) :=
  cI (64) fun z1 =>
  addI z1 x3 fun z2 =>
  cI (64) fun z3 =>
  addI z3 x3 fun z4 =>
  rdI h b1 289 z4 fun z5 =>
  cI (0) fun z6 =>
  addI z6 x3 fun z7 =>
  rdI h b1 289 z7 fun z8 =>
  mulI z5 z8 fun z9 =>
  cI (64) fun z10 =>
  addI z10 x2 fun z11 =>
  rdI h b1 289 z11 fun z12 =>
  addI z9 z12 fun z13 =>
  cI (0) fun z14 =>
  addI z14 x3 fun z15 =>
  rdI h b1 289 z15 fun z16 =>
  cI (1) fun z17 =>
  addI z16 z17 fun z18 =>
  divI z13 z18 fun z19 =>
  wrI h b1 289 z2 z19 fun h20 =>
  cI (128) fun z21 =>
  addI z21 x3 fun z22 =>
  cI (0) fun z23 =>
  wrI h20 b1 289 z22 z23 fun h24 =>
  cI (0) fun z25 =>
  addI z25 x2 fun z26 =>
  rdI h24 b1 289 z26 fun z27 =>
  cI (1) fun z28 =>
  subI z27 z28 fun z29 =>
  wrI h24 b1 289 z26 z29 fun h30 =>
  cI (0) fun z31 =>
  addI z31 x3 fun z32 =>
  rdI h30 b1 289 z32 fun z33 =>
  cI (1) fun z34 =>
  addI z33 z34 fun z35 =>
  wrI h30 b1 289 z32 z35 fun h36 =>
  some h36
def g_X9_does (b1 : Nat) (x2 : Int) (x3 : Int) (x4 : Int) (h : Hp) : Option (Hp) :=
  joinF (fun (a1 : Hp) =>
    some a1) fun j2 =>
  if x2 = 0 then
    cI (0) fun z5 =>
    addI z5 x3 fun z6 =>
    rdI h b1 289 z6 fun z7 =>
    joinF (fun (a8 : Unit) =>
      some h) fun j9 =>
    if z7 = 0 then
      j9 ()
    else
      cI (192) fun z10 =>
      addI z10 x3 fun z11 =>
      rdI h b1 289 z11 fun z12 =>
      cI (1) fun z13 =>
      if z12 = z13 then
        j9 ()
      else
        cI (192) fun z14 =>
        addI z14 x4 fun z15 =>
        rdI h b1 289 z15 fun z16 =>
        cI (1) fun z17 =>
        if z16 = z17 then
          j9 ()
        else
          cV (g_X9_unitGoes b1 x3 x4 h) fun h18 =>
          cI (128) fun z19 =>
          addI z19 x3 fun z20 =>
          cI (0) fun z21 =>
          wrI h18 b1 289 z20 z21 fun h22 =>
          j2 h22
  else
  if x2 = 1 then
    cI (128) fun z24 =>
    addI z24 x3 fun z25 =>
    cI (4) fun z26 =>
    cI (128) fun z27 =>
    addI z27 x3 fun z28 =>
    rdI h b1 289 z28 fun z29 =>
    cI (1) fun z30 =>
    addI z29 z30 fun z31 =>
    minI z26 z31 fun z32 =>
    wrI h b1 289 z25 z32 fun h33 =>
    j2 h33
  else
  if x2 = 2 then
    cI (64) fun z35 =>
    addI z35 x3 fun z36 =>
    cI (15) fun z37 =>
    cI (64) fun z38 =>
    addI z38 x3 fun z39 =>
    rdI h b1 289 z39 fun z40 =>
    cI (4) fun z41 =>
    addI z40 z41 fun z42 =>
    minI z37 z42 fun z43 =>
    wrI h b1 289 z36 z43 fun h44 =>
    j2 h44
  else
  if x2 = 3 then
    cI (192) fun z46 =>
    addI z46 x3 fun z47 =>
    cI (1) fun z48 =>
    wrI h b1 289 z47 z48 fun h49 =>
    j2 h49
  else
  j2 h
def g_X9_handsDo_l8 (b1 : Nat) (j5 : Hp → Option (Hp)) (z2 : Int) (l8 : Int × Hp → Option (Hp)) (q7 : Int × Hp) : Option (Hp) :=
      cI (-1) fun z11 =>
      if z2 = z11 then
        j5 q7.2
      else
        rdI q7.2 118 3 z2 fun z12 =>
        if z12 ≤ q7.1 then
          j5 q7.2
        else
          cI (4) fun z13 =>
          mulI z13 z2 fun z14 =>
          addI z14 q7.1 fun z15 =>
          cI (284) fun z16 =>
          addI z16 q7.1 fun z17 =>
          rdI q7.2 b1 289 z17 fun z18 =>
          cI (1) fun z19 =>
          joinF (fun (a20 : Hp) =>
            addI q7.1 (1) fun z23 =>
            l8 (z23, a20)) fun j21 =>
          if z18 = z19 then
            cI (284) fun z71 =>
            addI z71 q7.1 fun z72 =>
            cI (0) fun z73 =>
            wrI q7.2 b1 289 z72 z73 fun h74 =>
            j21 h74
          else
            cI (3) fun z24 =>
            cI (8) fun z25 =>
            mulI z25 z15 fun z26 =>
            cI (276) fun z27 =>
            addI z27 q7.1 fun z28 =>
            rdI q7.2 b1 289 z28 fun z29 =>
            addI z26 z29 fun z30 =>
            mulI z24 z30 fun z31 =>
            rdI q7.2 120 288 z31 fun z32 =>
            cI (1) fun z33 =>
            addI z31 z33 fun z34 =>
            rdI q7.2 120 288 z34 fun z35 =>
            cI (2) fun z36 =>
            addI z31 z36 fun z37 =>
            rdI q7.2 120 288 z37 fun z38 =>
            cV (g_X9_does b1 z32 z35 z38 q7.2) fun h39 =>
            cI (276) fun z40 =>
            addI z40 q7.1 fun z41 =>
            cI (276) fun z42 =>
            addI z42 q7.1 fun z43 =>
            rdI h39 b1 289 z43 fun z44 =>
            cI (1) fun z45 =>
            addI z44 z45 fun z46 =>
            rdI h39 119 12 z15 fun z47 =>
            remI z46 z47 fun z48 =>
            wrI h39 b1 289 z41 z48 fun h49 =>
            cI (280) fun z50 =>
            addI z50 q7.1 fun z51 =>
            rdI h49 b1 289 z51 fun z52 =>
            cI (1) fun z53 =>
            addI z52 z53 fun z54 =>
            wrI h49 b1 289 z51 z54 fun h55 =>
            cI (5) fun z56 =>
            rdI h55 102 9 z56 fun z57 =>
            if z57 = 0 then
              j21 h55
            else
              cI (280) fun z58 =>
              addI z58 q7.1 fun z59 =>
              rdI h55 b1 289 z59 fun z60 =>
              cI (5) fun z61 =>
              rdI h55 102 9 z61 fun z62 =>
              if z62 ≤ z60 then
                cI (280) fun z63 =>
                addI z63 q7.1 fun z64 =>
                cI (0) fun z65 =>
                wrI h55 b1 289 z64 z65 fun h66 =>
                cI (284) fun z67 =>
                addI z67 q7.1 fun z68 =>
                cI (1) fun z69 =>
                wrI h66 b1 289 z68 z69 fun h70 =>
                j21 h70
              else
                j21 h55
def g_X9_handsDo (b1 : Nat) (h : Hp) : Option (Hp) :=
  cI (275) fun z1 =>
  rdI h b1 289 z1 fun z2 =>
  cI (0) fun z3 =>
  joinF (fun (a4 : Hp) =>
    some a4) fun j5 =>
  loopF (g_X9_handsDo_l8 b1 j5 z2) FU (z3, h)
def g_X9_waveComes_l50 (b1 : Nat) (j14 : Hp → Option (Hp)) (j18 : Int × Hp → Option (Hp)) (j36 : Int × Int × Hp → Option (Hp)) (q7 : Int × Hp) (x2 : Int) (x3 : Int) (l50 : Int × Hp → Option (Hp)) (q49 : Int × Hp) : Option (Hp) :=
            gF q49.2 100 11 fun z53 =>
            minI x2 z53 fun z54 =>
            if z54 ≤ q49.1 then
              j14 q49.2
            else
              gF q49.2 100 10 fun z55 =>
              mulI z55 q49.1 fun z56 =>
              addI z56 q7.1 fun z57 =>
              cI (192) fun z58 =>
              addI z58 z57 fun z59 =>
              rdI q49.2 b1 289 z59 fun z60 =>
              cI (1) fun z61 =>
              if z60 = z61 then
                j36 (q49.1, z57, q49.2)
              else
                cI (64) fun z62 =>
                addI z62 z57 fun z63 =>
                cI (16) fun z64 =>
                wrI q49.2 b1 289 z63 z64 fun h65 =>
                cI (0) fun z66 =>
                addI z66 z57 fun z67 =>
                rdI h65 b1 289 z67 fun z68 =>
                if x3 < z68 then
                  j18 (z57, h65)
                else
                  addI q49.1 (1) fun z69 =>
                  l50 (z69, h65)
def g_X9_waveComes_l8 (b1 : Nat) (x2 : Int) (x3 : Int) (l8 : Int × Hp → Option (Hp)) (q7 : Int × Hp) : Option (Hp) :=
      gF q7.2 100 10 fun z11 =>
      if z11 ≤ q7.1 then
        some q7.2
      else
        cI (0) fun z12 =>
        joinF (fun (a13 : Hp) =>
          addI q7.1 (1) fun z16 =>
          l8 (z16, a13)) fun j14 =>
        joinF (fun (a17 : Int × Hp) =>
          gF a17.2 100 39 fun z21 =>
          cI (0) fun z22 =>
          addI z22 a17.1 fun z23 =>
          rdI a17.2 b1 289 z23 fun z24 =>
          minI z21 z24 fun z25 =>
          cI (0) fun z26 =>
          addI z26 a17.1 fun z27 =>
          rdI a17.2 b1 289 z27 fun z28 =>
          subI z28 z25 fun z29 =>
          wrI a17.2 b1 289 z27 z29 fun h30 =>
          cI (269) fun z31 =>
          rdI h30 b1 289 z31 fun z32 =>
          addI z32 z25 fun z33 =>
          wrI h30 b1 289 z31 z33 fun h34 =>
          j14 h34) fun j18 =>
        joinF (fun (a35 : Int × Int × Hp) =>
          cI (1) fun z40 =>
          addI a35.1 z40 fun z41 =>
          gF a35.2.2 100 11 fun z42 =>
          if z42 ≤ z41 then
            j14 a35.2.2
          else
            cI (64) fun z43 =>
            addI z43 a35.2.1 fun z44 =>
            gF a35.2.2 100 10 fun z45 =>
            addI z44 z45 fun z46 =>
            cI (16) fun z47 =>
            wrI a35.2.2 b1 289 z46 z47 fun h48 =>
            j14 h48) fun j36 =>
        loopF (g_X9_waveComes_l50 b1 j14 j18 j36 q7 x2 x3) FU (z12, q7.2)
def g_X9_waveComes (b1 : Nat) (x2 : Int) (x3 : Int) (h : Hp) : Option (Hp) :=
  cI (274) fun z1 =>
  rdI h b1 289 z1 fun z2 =>
  cI (1) fun z3 =>
  addI z2 z3 fun z4 =>
  wrI h b1 289 z1 z4 fun h5 =>
  cI (0) fun z6 =>
  loopF (g_X9_waveComes_l8 b1 x2 x3) FU (z6, h5)
def g_X9_draw (b1 : Nat) (x2 : Int) (h : Hp) : Option (Int × Hp) :=
  cI (1103515245) fun z1 =>
  cI (288) fun z2 =>
  rdI h b1 289 z2 fun z3 =>
  i2lI z3 fun z4 =>
  lmulI z1 z4 fun z5 =>
  cI (12345) fun z6 =>
  laddI z5 z6 fun z7 =>
  cI (2147483648) fun z8 =>
  lremI z7 z8 fun z9 =>
  cI (288) fun z10 =>
  l2iI z9 fun z11 =>
  wrI h b1 289 z10 z11 fun h12 =>
  cI (65536) fun z13 =>
  ldivI z9 z13 fun z14 =>
  i2lI x2 fun z15 =>
  lremI z14 z15 fun z16 =>
  l2iI z16 fun z17 =>
  some (z17, h12)
def g_X9_seaComes_l53 (b1 : Nat) (j5 : Hp → Option (Hp)) (z2 : Int) (l53 : Int × Hp → Option (Hp)) (q52 : Int × Hp) : Option (Hp) :=
      gF q52.2 100 28 fun z56 =>
      if z56 ≤ q52.1 then
        j5 q52.2
      else
        cI (3) fun z57 =>
        mulI z57 q52.1 fun z58 =>
        rdI q52.2 110 36 z58 fun z59 =>
        joinF (fun (a60 : Hp) =>
          addI q52.1 (1) fun z63 =>
          l53 (z63, a60)) fun j61 =>
        if z59 = z2 then
          cI (3) fun z64 =>
          mulI z64 q52.1 fun z65 =>
          cI (1) fun z66 =>
          addI z65 z66 fun z67 =>
          rdI q52.2 110 36 z67 fun z68 =>
          cI (3) fun z69 =>
          mulI z69 q52.1 fun z70 =>
          cI (2) fun z71 =>
          addI z70 z71 fun z72 =>
          rdI q52.2 110 36 z72 fun z73 =>
          cV (g_X9_waveComes b1 z68 z73 q52.2) fun h74 =>
          j61 h74
        else
          j61 q52.2
def g_X9_seaComes (b1 : Nat) (h : Hp) : Option (Hp) :=
  cI (270) fun z1 =>
  rdI h b1 289 z1 fun z2 =>
  cI (0) fun z3 =>
  joinF (fun (a4 : Hp) =>
    cI (0) fun z7 =>
    rdI a4 112 4 z7 fun z8 =>
    cI (-1) fun z9 =>
    joinF (fun (a10 : Unit) =>
      some a4) fun j11 =>
    if z8 = z9 then
      j11 ()
    else
      cI (0) fun z12 =>
      rdI a4 112 4 z12 fun z13 =>
      if z2 < z13 then
        j11 ()
      else
        cI (1) fun z14 =>
        rdI a4 112 4 z14 fun z15 =>
        if z15 < z2 then
          j11 ()
        else
          cI (0) fun z16 =>
          rdI a4 112 4 z16 fun z17 =>
          subI z2 z17 fun z18 =>
          cI (2) fun z19 =>
          rdI a4 112 4 z19 fun z20 =>
          remI z18 z20 fun z21 =>
          if z21 = 0 then
            cI (100) fun z22 =>
            cW (g_X9_draw b1 z22 a4) fun z23 h24 =>
            cI (3) fun z25 =>
            rdI h24 112 4 z25 fun z26 =>
            if z23 < z26 then
              cI (0) fun z27 =>
              rdI h24 114 2 z27 fun z28 =>
              cI (1) fun z29 =>
              rdI h24 114 2 z29 fun z30 =>
              cI (0) fun z31 =>
              rdI h24 114 2 z31 fun z32 =>
              subI z30 z32 fun z33 =>
              cI (1) fun z34 =>
              addI z33 z34 fun z35 =>
              cW (g_X9_draw b1 z35 h24) fun z36 h37 =>
              addI z28 z36 fun z38 =>
              cI (0) fun z39 =>
              rdI h37 115 2 z39 fun z40 =>
              cI (1) fun z41 =>
              rdI h37 115 2 z41 fun z42 =>
              cI (0) fun z43 =>
              rdI h37 115 2 z43 fun z44 =>
              subI z42 z44 fun z45 =>
              cI (1) fun z46 =>
              addI z45 z46 fun z47 =>
              cW (g_X9_draw b1 z47 h37) fun z48 h49 =>
              addI z40 z48 fun z50 =>
              cV (g_X9_waveComes b1 z38 z50 h49) fun h51 =>
              some h51
            else
              some h24
          else
            j11 ()) fun j5 =>
  loopF (g_X9_seaComes_l53 b1 j5 z2) FU (z3, h)
def g_X9_sun_l10 (b1 : Nat) (l10 : Int × Hp → Option (Hp)) (q9 : Int × Hp) : Option (Hp) :=
        gF q9.2 100 10 fun z13 =>
        gF q9.2 100 11 fun z14 =>
        mulI z13 z14 fun z15 =>
        if z15 ≤ q9.1 then
          some q9.2
        else
          cI (64) fun z16 =>
          addI z16 q9.1 fun z17 =>
          cI (0) fun z18 =>
          cI (64) fun z19 =>
          addI z19 q9.1 fun z20 =>
          rdI q9.2 b1 289 z20 fun z21 =>
          cI (0) fun z22 =>
          addI z22 q9.1 fun z23 =>
          rdI q9.2 b1 289 z23 fun z24 =>
          cI (10) fun z25 =>
          joinF (fun (a26 : Int) =>
            subI z21 a26 fun z29 =>
            maxI z18 z29 fun z30 =>
            wrI q9.2 b1 289 z17 z30 fun h31 =>
            addI q9.1 (1) fun z32 =>
            l10 (z32, h31)) fun j27 =>
          if z24 < z25 then
            cI (1) fun z33 =>
            j27 z33
          else
            cI (2) fun z34 =>
            j27 z34
def g_X9_sun (b1 : Nat) (h : Hp) : Option (Hp) :=
  cI (270) fun z1 =>
  rdI h b1 289 z1 fun z2 =>
  cI (1) fun z3 =>
  addI z2 z3 fun z4 =>
  cI (2) fun z5 =>
  rdI h 102 9 z5 fun z6 =>
  remI z4 z6 fun z7 =>
  if z7 = 0 then
    gF h 100 10 fun z8 =>
    loopF (g_X9_sun_l10 b1) FU (z8, h)
  else
    some h
def g_X9_lowestBeside_l6 (b1 : Nat) (h : Hp) (x2 : Int) (z2 : Int) (l6 : Int × Int → Option (Int)) (q5 : Int × Int) : Option (Int) :=
      cI (4) fun z9 =>
      if z9 ≤ q5.2 then
        some q5.1
      else
        joinF (fun (a10 : Int) =>
          joinF (fun (a13 : Int) =>
            addI q5.2 (1) fun z16 =>
            l6 (a13, z16)) fun j14 =>
          if a10 < 0 then
            j14 q5.1
          else
            gF h 100 10 fun z17 =>
            gF h 100 11 fun z18 =>
            mulI z17 z18 fun z19 =>
            if z19 ≤ a10 then
              j14 q5.1
            else
              cI (192) fun z20 =>
              addI z20 a10 fun z21 =>
              rdI h b1 289 z21 fun z22 =>
              cI (1) fun z23 =>
              if z22 = z23 then
                j14 q5.1
              else
                cI (-1) fun z24 =>
                joinF (fun (a25 : Unit) =>
                  j14 a10) fun j26 =>
                if q5.1 = z24 then
                  j26 ()
                else
                  cI (0) fun z27 =>
                  addI z27 a10 fun z28 =>
                  rdI h b1 289 z28 fun z29 =>
                  cI (0) fun z30 =>
                  addI z30 q5.1 fun z31 =>
                  rdI h b1 289 z31 fun z32 =>
                  if z32 ≤ z29 then
                    j14 q5.1
                  else
                    j26 ()) fun j11 =>
        if q5.2 = 0 then
          gF h 100 10 fun z46 =>
          subI x2 z46 fun z47 =>
          j11 z47
        else
          cI (1) fun z33 =>
          if q5.2 = z33 then
            if z2 ≤ 0 then
              cI (-1) fun z43 =>
              j11 z43
            else
              cI (1) fun z44 =>
              subI x2 z44 fun z45 =>
              j11 z45
          else
            cI (2) fun z34 =>
            if q5.2 = z34 then
              cI (1) fun z37 =>
              addI z2 z37 fun z38 =>
              gF h 100 10 fun z39 =>
              if z39 ≤ z38 then
                cI (-1) fun z40 =>
                j11 z40
              else
                cI (1) fun z41 =>
                addI x2 z41 fun z42 =>
                j11 z42
            else
              gF h 100 10 fun z35 =>
              addI x2 z35 fun z36 =>
              j11 z36
def g_X9_lowestBeside (b1 : Nat) (x2 : Int) (h : Hp) : Option (Int) :=
  gF h 100 10 fun z1 =>
  remI x2 z1 fun z2 =>
  cI (-1) fun z3 =>
  cI (0) fun z4 =>
  loopF (g_X9_lowestBeside_l6 b1 h x2 z2) FU (z3, z4)
def g_X9_slides_l48 (b1 : Nat) (j28 : Hp → Option (Hp)) (l48 : Int × Hp → Option (Hp)) (q47 : Int × Hp) : Option (Hp) :=
              gF q47.2 100 10 fun z51 =>
              gF q47.2 100 11 fun z52 =>
              mulI z51 z52 fun z53 =>
              if z53 ≤ q47.1 then
                j28 q47.2
              else
                cI (192) fun z54 =>
                addI z54 q47.1 fun z55 =>
                rdI q47.2 b1 289 z55 fun z56 =>
                cI (1) fun z57 =>
                joinF (fun (a58 : Hp) =>
                  addI q47.1 (1) fun z61 =>
                  l48 (z61, a58)) fun j59 =>
                if z56 = z57 then
                  j59 q47.2
                else
                  cP (g_X9_lowestBeside b1 q47.1 q47.2) fun z62 =>
                  cI (-1) fun z63 =>
                  if z62 = z63 then
                    j59 q47.2
                  else
                    cI (0) fun z64 =>
                    addI z64 q47.1 fun z65 =>
                    rdI q47.2 b1 289 z65 fun z66 =>
                    cI (0) fun z67 =>
                    addI z67 z62 fun z68 =>
                    rdI q47.2 b1 289 z68 fun z69 =>
                    subI z66 z69 fun z70 =>
                    cI (64) fun z71 =>
                    addI z71 q47.1 fun z72 =>
                    rdI q47.2 b1 289 z72 fun z73 =>
                    cI (128) fun z74 =>
                    addI z74 q47.1 fun z75 =>
                    rdI q47.2 b1 289 z75 fun z76 =>
                    cP (g_X9_holdsOf z73 z76 q47.2) fun z77 =>
                    if z77 < z70 then
                      cV (g_X9_unitGoes b1 q47.1 z62 q47.2) fun h78 =>
                      cI (272) fun z79 =>
                      rdI h78 b1 289 z79 fun z80 =>
                      cI (1) fun z81 =>
                      addI z80 z81 fun z82 =>
                      wrI h78 b1 289 z79 z82 fun h83 =>
                      j59 h83
                    else
                      j59 q47.2
def g_X9_slides_l19 (b1 : Nat) (j10 : Hp → Option (Hp)) (l19 : Int × Int × Hp → Option (Hp)) (q18 : Int × Int × Hp) : Option (Hp) :=
      cI (50) fun z23 =>
      if z23 ≤ q18.2.1 then
        j10 q18.2.2
      else
        if q18.1 = 0 then
          j10 q18.2.2
        else
          cI (272) fun z24 =>
          rdI q18.2.2 b1 289 z24 fun z25 =>
          cI (0) fun z26 =>
          joinF (fun (a27 : Hp) =>
            cI (272) fun z30 =>
            rdI a27 b1 289 z30 fun z31 =>
            joinF (fun (a32 : Int) =>
              cI (273) fun z35 =>
              rdI a27 b1 289 z35 fun z36 =>
              joinF (fun (a37 : Int) =>
                addI z36 a37 fun z40 =>
                wrI a27 b1 289 z35 z40 fun h41 =>
                addI q18.2.1 (1) fun z42 =>
                l19 (a32, z42, h41)) fun j38 =>
              if a32 = 0 then
                cI (0) fun z43 =>
                j38 z43
              else
                cI (1) fun z44 =>
                j38 z44) fun j33 =>
            if z31 ≤ z25 then
              cI (0) fun z45 =>
              j33 z45
            else
              cI (1) fun z46 =>
              j33 z46) fun j28 =>
          loopF (g_X9_slides_l48 b1 j28) FU (z26, q18.2.2)
def g_X9_slides (b1 : Nat) (h : Hp) : Option (Hp) :=
  cI (272) fun z1 =>
  cI (0) fun z2 =>
  wrI h b1 289 z1 z2 fun h3 =>
  cI (273) fun z4 =>
  cI (0) fun z5 =>
  wrI h3 b1 289 z4 z5 fun h6 =>
  cI (1) fun z7 =>
  cI (0) fun z8 =>
  joinF (fun (a9 : Hp) =>
    cI (271) fun z12 =>
    rdI a9 b1 289 z12 fun z13 =>
    cI (272) fun z14 =>
    rdI a9 b1 289 z14 fun z15 =>
    addI z13 z15 fun z16 =>
    wrI a9 b1 289 z12 z16 fun h17 =>
    some h17) fun j10 =>
  loopF (g_X9_slides_l19 b1 j10) FU (z7, z8, h6)
def g_X9_flagsFall_l3 (b1 : Nat) (l3 : Int × Hp → Option (Hp)) (q2 : Int × Hp) : Option (Hp) :=
      cI (268) fun z6 =>
      rdI q2.2 b1 289 z6 fun z7 =>
      if z7 ≤ q2.1 then
        some q2.2
      else
        cI (264) fun z8 =>
        addI z8 q2.1 fun z9 =>
        rdI q2.2 b1 289 z9 fun z10 =>
        cI (-1) fun z11 =>
        joinF (fun (a12 : Hp) =>
          addI q2.1 (1) fun z15 =>
          l3 (z15, a12)) fun j13 =>
        if z10 = z11 then
          cI (0) fun z16 =>
          cI (256) fun z17 =>
          addI z17 q2.1 fun z18 =>
          rdI q2.2 b1 289 z18 fun z19 =>
          addI z16 z19 fun z20 =>
          rdI q2.2 b1 289 z20 fun z21 =>
          cI (260) fun z22 =>
          addI z22 q2.1 fun z23 =>
          rdI q2.2 b1 289 z23 fun z24 =>
          cI (4) fun z25 =>
          rdI q2.2 102 9 z25 fun z26 =>
          subI z24 z26 fun z27 =>
          if z27 ≤ z21 then
            j13 q2.2
          else
            cI (264) fun z28 =>
            addI z28 q2.1 fun z29 =>
            cI (270) fun z30 =>
            rdI q2.2 b1 289 z30 fun z31 =>
            wrI q2.2 b1 289 z29 z31 fun h32 =>
            j13 h32
        else
          j13 q2.2
def g_X9_flagsFall (b1 : Nat) (h : Hp) : Option (Hp) :=
  cI (0) fun z1 =>
  loopF (g_X9_flagsFall_l3 b1) FU (z1, h)
def g_X9_finish (b1 : Nat) (h : Hp) : Option (Hp) :=
  cV (g_X9_seaComes b1 h) fun h1 =>
  cV (g_X9_sun b1 h1) fun h2 =>
  cV (g_X9_slides b1 h2) fun h3 =>
  cV (g_X9_flagsFall b1 h3) fun h4 =>
  cI (270) fun z5 =>
  rdI h4 b1 289 z5 fun z6 =>
  cI (1) fun z7 =>
  addI z6 z7 fun z8 =>
  wrI h4 b1 289 z5 z8 fun h9 =>
  some h9
def g_X9_minute (b1 : Nat) (h : Hp) : Option (Hp) :=
  cV (g_X9_handsDo b1 h) fun h1 =>
  cV (g_X9_finish b1 h1) fun h2 =>
  some h2
def g_X9_chance (x1 : Int) (h : Hp) : Option (Int × Hp) :=
  if 0 ≤ x1 then
    cI (288) fun z1 =>
    wrI h 121 289 z1 x1 fun h2 =>
    cI (1) fun z3 =>
    some (z3, h2)
  else
    cI (-2) fun z4 =>
    some (z4, h)
def g_X9_putPlan_l5 (b1 : Nat) (l5 : Int × Hp → Option (Hp)) (q4 : Int × Hp) : Option (Hp) :=
      cI (4) fun z8 =>
      if z8 ≤ q4.1 then
        some q4.2
      else
        cI (276) fun z9 =>
        addI z9 q4.1 fun z10 =>
        cI (0) fun z11 =>
        wrI q4.2 b1 289 z10 z11 fun h12 =>
        cI (280) fun z13 =>
        addI z13 q4.1 fun z14 =>
        cI (0) fun z15 =>
        wrI h12 b1 289 z14 z15 fun h16 =>
        cI (284) fun z17 =>
        addI z17 q4.1 fun z18 =>
        cI (0) fun z19 =>
        wrI h16 b1 289 z18 z19 fun h20 =>
        addI q4.1 (1) fun z21 =>
        l5 (z21, h20)
def g_X9_putPlan (b1 : Nat) (x2 : Int) (h : Hp) : Option (Hp) :=
  cI (275) fun z1 =>
  wrI h b1 289 z1 x2 fun h2 =>
  cI (0) fun z3 =>
  loopF (g_X9_putPlan_l5 b1) FU (z3, h2)
def g_X9_work (x1 : Int) (h : Hp) : Option (Int × Hp) :=
  cI (-1) fun z1 =>
  joinF (fun (a2 : Unit) =>
    cV (g_X9_putPlan 121 x1 h) fun h4 =>
    cI (1) fun z5 =>
    some (z5, h4)) fun j3 =>
  if x1 = z1 then
    j3 ()
  else
    cP (g_X9_isPlan x1 h) fun z6 =>
    if z6 = 0 then
      cI (-2) fun z7 =>
      some (z7, h)
    else
      j3 ()
def g_X9_pass_l7 (x1 : Int) (l7 : Int × Hp → Option (Int × Hp)) (q6 : Int × Hp) : Option (Int × Hp) :=
        if x1 ≤ q6.1 then
          cI (270) fun z10 =>
          rdI q6.2 121 289 z10 fun z11 =>
          some (z11, q6.2)
        else
          cV (g_X9_minute 121 q6.2) fun h12 =>
          addI q6.1 (1) fun z13 =>
          l7 (z13, h12)
def g_X9_pass (x1 : Int) (h : Hp) : Option (Int × Hp) :=
  i2lI x1 fun z1 =>
  cI (0) fun z2 =>
  cI (360) fun z3 =>
  cP (g_X9_in z1 z2 z3) fun z4 =>
  if z4 = 0 then
    cI (-2) fun z14 =>
    some (z14, h)
  else
    cI (0) fun z5 =>
    loopF (g_X9_pass_l7 x1) FU (z5, h)
def g_X9_cell (x1 : Int) (x2 : Int) (x3 : Int) (h : Hp) : Option (Int) :=
  i2lI x1 fun z1 =>
  cI (0) fun z2 =>
  gF h 100 10 fun z3 =>
  i2lI z3 fun z4 =>
  cI (1) fun z5 =>
  lsubI z4 z5 fun z6 =>
  cP (g_X9_in z1 z2 z6) fun z7 =>
  joinF (fun (a8 : Unit) =>
    cI (-2) fun z10 =>
    some z10) fun j9 =>
  if z7 = 0 then
    j9 ()
  else
    i2lI x2 fun z11 =>
    cI (0) fun z12 =>
    gF h 100 11 fun z13 =>
    i2lI z13 fun z14 =>
    cI (1) fun z15 =>
    lsubI z14 z15 fun z16 =>
    cP (g_X9_in z11 z12 z16) fun z17 =>
    if z17 = 0 then
      j9 ()
    else
      i2lI x3 fun z18 =>
      cI (0) fun z19 =>
      cI (4) fun z20 =>
      cP (g_X9_in z18 z19 z20) fun z21 =>
      if z21 = 0 then
        j9 ()
      else
        gF h 100 10 fun z22 =>
        mulI z22 x2 fun z23 =>
        addI z23 x1 fun z24 =>
        if x3 = 0 then
          cI (0) fun z26 =>
          addI z26 z24 fun z27 =>
          rdI h 121 289 z27 fun z28 =>
          some z28
        else
        if x3 = 1 then
          cI (64) fun z30 =>
          addI z30 z24 fun z31 =>
          rdI h 121 289 z31 fun z32 =>
          some z32
        else
        if x3 = 2 then
          cI (128) fun z34 =>
          addI z34 z24 fun z35 =>
          rdI h 121 289 z35 fun z36 =>
          some z36
        else
        if x3 = 3 then
          cI (192) fun z38 =>
          addI z38 z24 fun z39 =>
          rdI h 121 289 z39 fun z40 =>
          some z40
        else
        cI (64) fun z41 =>
        addI z41 z24 fun z42 =>
        rdI h 121 289 z42 fun z43 =>
        cI (128) fun z44 =>
        addI z44 z24 fun z45 =>
        rdI h 121 289 z45 fun z46 =>
        cP (g_X9_holdsOf z43 z46 h) fun z47 =>
        some z47
def g_X9_isFlag (x1 : Int) (h : Hp) : Option (Int) :=
  i2lI x1 fun z1 =>
  cI (0) fun z2 =>
  gF h 100 12 fun z3 =>
  i2lI z3 fun z4 =>
  cI (1) fun z5 =>
  lsubI z4 z5 fun z6 =>
  cP (g_X9_in z1 z2 z6) fun z7 =>
  retZ z7
def g_X9_flag (x1 : Int) (x2 : Int) (h : Hp) : Option (Int) :=
  cP (g_X9_isFlag x1 h) fun z1 =>
  joinF (fun (a2 : Unit) =>
    cI (-2) fun z4 =>
    some z4) fun j3 =>
  if z1 = 0 then
    j3 ()
  else
    i2lI x2 fun z5 =>
    cI (0) fun z6 =>
    cI (3) fun z7 =>
    cP (g_X9_in z5 z6 z7) fun z8 =>
    if z8 = 0 then
      j3 ()
    else
      joinF (fun (a9 : Int) =>
        some a9) fun j10 =>
      if x2 = 0 then
        cI (264) fun z23 =>
        addI z23 x1 fun z24 =>
        rdI h 121 289 z24 fun z25 =>
        cI (-1) fun z26 =>
        if z25 = z26 then
          cI (1) fun z28 =>
          j10 z28
        else
          cI (0) fun z27 =>
          j10 z27
      else
        cI (1) fun z12 =>
        if x2 = z12 then
          cI (256) fun z20 =>
          addI z20 x1 fun z21 =>
          rdI h 121 289 z21 fun z22 =>
          j10 z22
        else
          cI (2) fun z13 =>
          if x2 = z13 then
            cI (260) fun z17 =>
            addI z17 x1 fun z18 =>
            rdI h 121 289 z18 fun z19 =>
            j10 z19
          else
            cI (264) fun z14 =>
            addI z14 x1 fun z15 =>
            rdI h 121 289 z15 fun z16 =>
            j10 z16
def g_X9_sum_l27 (h : Hp) (j4 : Int → Option (Int)) (l27 : Int × Int → Option (Int)) (q26 : Int × Int) : Option (Int) :=
      gF h 100 10 fun z30 =>
      gF h 100 11 fun z31 =>
      mulI z30 z31 fun z32 =>
      if z32 ≤ q26.2 then
        j4 q26.1
      else
        cI (0) fun z33 =>
        addI z33 q26.2 fun z34 =>
        rdI h 121 289 z34 fun z35 =>
        addI q26.1 z35 fun z36 =>
        addI q26.2 (1) fun z37 =>
        l27 (z36, z37)
def g_X9_sum (x1 : Int) (h : Hp) : Option (Int) :=
  cI (0) fun z1 =>
  cI (0) fun z2 =>
  joinF (fun (a3 : Int) =>
    if x1 = 0 then
      some a3
    else
    if x1 = 1 then
      cI (269) fun z8 =>
      rdI h 121 289 z8 fun z9 =>
      some z9
    else
    if x1 = 2 then
      cI (270) fun z11 =>
      rdI h 121 289 z11 fun z12 =>
      some z12
    else
    if x1 = 3 then
      cI (271) fun z14 =>
      rdI h 121 289 z14 fun z15 =>
      some z15
    else
    if x1 = 4 then
      cI (272) fun z17 =>
      rdI h 121 289 z17 fun z18 =>
      some z18
    else
    if x1 = 5 then
      cI (273) fun z20 =>
      rdI h 121 289 z20 fun z21 =>
      some z21
    else
    if x1 = 6 then
      cI (274) fun z23 =>
      rdI h 121 289 z23 fun z24 =>
      some z24
    else
    cI (-1) fun z25 =>
    some z25) fun j4 =>
  loopF (g_X9_sum_l27 h j4) FU (z1, z2)
def g_X9_isSlot (x1 : Int) : Option (Int) :=
  i2lI x1 fun z1 =>
  cI (0) fun z2 =>
  cI (2) fun z3 =>
  cP (g_X9_in z1 z2 z3) fun z4 =>
  retZ z4
def g_X9_keep_l11 (j4 : Hp → Option (Int × Hp)) (x1 : Int) (l11 : Int × Hp → Option (Int × Hp)) (q10 : Int × Hp) : Option (Int × Hp) :=
        cI (289) fun z14 =>
        if z14 ≤ q10.1 then
          j4 q10.2
        else
          cI (289) fun z15 =>
          mulI z15 x1 fun z16 =>
          addI z16 q10.1 fun z17 =>
          rdI q10.2 121 289 q10.1 fun z18 =>
          wrI q10.2 123 867 z17 z18 fun h19 =>
          addI q10.1 (1) fun z20 =>
          l11 (z20, h19)
def g_X9_keep (x1 : Int) (h : Hp) : Option (Int × Hp) :=
  cP (g_X9_isSlot x1) fun z1 =>
  if z1 = 0 then
    cI (-2) fun z21 =>
    some (z21, h)
  else
    cI (0) fun z2 =>
    joinF (fun (a3 : Hp) =>
      cI (1) fun z6 =>
      wrZ a3 124 3 x1 z6 fun h7 =>
      cI (270) fun z8 =>
      rdI h7 121 289 z8 fun z9 =>
      some (z9, h7)) fun j4 =>
    loopF (g_X9_keep_l11 j4 x1) FU (z2, h)
def g_X9_take_l5 (x1 : Int) (l5 : Int × Hp → Option (Int × Hp)) (q4 : Int × Hp) : Option (Int × Hp) :=
          cI (289) fun z8 =>
          if z8 ≤ q4.1 then
            cI (270) fun z9 =>
            rdI q4.2 121 289 z9 fun z10 =>
            some (z10, q4.2)
          else
            cI (289) fun z11 =>
            mulI z11 x1 fun z12 =>
            addI z12 q4.1 fun z13 =>
            rdI q4.2 123 867 z13 fun z14 =>
            wrI q4.2 121 289 q4.1 z14 fun h15 =>
            addI q4.1 (1) fun z16 =>
            l5 (z16, h15)
def g_X9_take (x1 : Int) (h : Hp) : Option (Int × Hp) :=
  cP (g_X9_isSlot x1) fun z1 =>
  if z1 = 0 then
    cI (-2) fun z18 =>
    some (z18, h)
  else
    rdI h 124 3 x1 fun z2 =>
    if z2 = 0 then
      cI (-4) fun z17 =>
      some (z17, h)
    else
      cI (0) fun z3 =>
      loopF (g_X9_take_l5 x1) FU (z3, h)
def g_X9_isSand (x1 : Int) (x2 : Int) : Option (Int) :=
  i2lI x1 fun z1 =>
  cI (0) fun z2 =>
  cI (16) fun z3 =>
  cP (g_X9_in z1 z2 z3) fun z4 =>
  joinF (fun (a5 : Int) =>
    retZ a5) fun j6 =>
  joinF (fun (a8 : Unit) =>
    cI (0) fun z10 =>
    j6 z10) fun j9 =>
  if z4 = 0 then
    j9 ()
  else
    i2lI x2 fun z11 =>
    cI (0) fun z12 =>
    cI (4) fun z13 =>
    cP (g_X9_in z11 z12 z13) fun z14 =>
    if z14 = 0 then
      j9 ()
    else
      cI (1) fun z15 =>
      j6 z15
def g_X9_holds (x1 : Int) (x2 : Int) (h : Hp) : Option (Int) :=
  cP (g_X9_isSand x1 x2) fun z1 =>
  joinF (fun (a2 : Int) =>
    some a2) fun j3 =>
  if z1 = 0 then
    cI (-2) fun z5 =>
    j3 z5
  else
    cP (g_X9_holdsOf x1 x2 h) fun z6 =>
    j3 z6
def g_X9_high (x1 : Int) (x2 : Int) (x3 : Int) (h : Hp) : Option (Int) :=
  i2lI x1 fun z1 =>
  cI (1) fun z2 =>
  cI (40) fun z3 =>
  cP (g_X9_in z1 z2 z3) fun z4 =>
  joinF (fun (a5 : Int) =>
    some a5) fun j6 =>
  joinF (fun (a8 : Unit) =>
    cI (-2) fun z10 =>
    j6 z10) fun j9 =>
  if z4 = 0 then
    j9 ()
  else
    cP (g_X9_isSand x2 x3) fun z11 =>
    if z11 = 0 then
      j9 ()
    else
      cI (1) fun z12 =>
      addI x1 z12 fun z13 =>
      cI (2) fun z14 =>
      divI z13 z14 fun z15 =>
      cP (g_X9_holdsOf x2 x3 h) fun z16 =>
      mulI z15 z16 fun z17 =>
      j6 z17
def g_X9_spill_l31 (j27 : Int × Hp → Option (Int × Hp)) (z13 : Int) (l31 : Int × Int × Hp → Option (Int × Hp)) (q30 : Int × Int × Hp) : Option (Int × Hp) :=
                    cI (9) fun z35 =>
                    if z35 ≤ q30.2.1 then
                      j27 (q30.1, q30.2.2)
                    else
                      joinF (fun (a36 : Int) =>
                        rdI q30.2.2 125 9 q30.2.1 fun z39 =>
                        rdI q30.2.2 125 9 a36 fun z40 =>
                        subI z39 z40 fun z41 =>
                        joinF (fun (a42 : Int × Hp) =>
                          addI q30.2.1 (1) fun z46 =>
                          l31 (a42.1, z46, a42.2)) fun j43 =>
                        if z13 < z41 then
                          rdI q30.2.2 125 9 q30.2.1 fun z47 =>
                          cI (1) fun z48 =>
                          subI z47 z48 fun z49 =>
                          wrI q30.2.2 125 9 q30.2.1 z49 fun h50 =>
                          rdI h50 125 9 a36 fun z51 =>
                          cI (1) fun z52 =>
                          addI z51 z52 fun z53 =>
                          wrI h50 125 9 a36 z53 fun h54 =>
                          cI (1) fun z55 =>
                          j43 (z55, h54)
                        else
                          j43 (q30.1, q30.2.2)) fun j37 =>
                      if q30.2.1 = 0 then
                        cI (1) fun z68 =>
                        j37 z68
                      else
                        cI (8) fun z56 =>
                        if q30.2.1 = z56 then
                          cI (7) fun z67 =>
                          j37 z67
                        else
                          cI (1) fun z57 =>
                          addI q30.2.1 z57 fun z58 =>
                          rdI q30.2.2 125 9 z58 fun z59 =>
                          cI (1) fun z60 =>
                          subI q30.2.1 z60 fun z61 =>
                          rdI q30.2.2 125 9 z61 fun z62 =>
                          if z62 ≤ z59 then
                            cI (1) fun z63 =>
                            subI q30.2.1 z63 fun z64 =>
                            j37 z64
                          else
                            cI (1) fun z65 =>
                            addI q30.2.1 z65 fun z66 =>
                            j37 z66
def g_X9_spill_l20 (x4 : Int) (z13 : Int) (l20 : Int × Hp → Option (Int × Hp)) (q19 : Int × Hp) : Option (Int × Hp) :=
              if q19.1 = 0 then
                rdI q19.2 125 9 x4 fun z23 =>
                some (z23, q19.2)
              else
                cI (0) fun z24 =>
                cI (0) fun z25 =>
                joinF (fun (a26 : Int × Hp) =>
                  l20 (a26.1, a26.2)) fun j27 =>
                loopF (g_X9_spill_l31 j27 z13) FU (z24, z25, q19.2)
def g_X9_spill_l70 (j16 : Hp → Option (Int × Hp)) (x1 : Int) (l70 : Int × Hp → Option (Int × Hp)) (q69 : Int × Hp) : Option (Int × Hp) :=
            cI (9) fun z73 =>
            if z73 ≤ q69.1 then
              j16 q69.2
            else
              cI (4) fun z74 =>
              joinF (fun (a75 : Int) =>
                wrI q69.2 125 9 q69.1 a75 fun h78 =>
                addI q69.1 (1) fun z79 =>
                l70 (z79, h78)) fun j76 =>
              if q69.1 = z74 then
                j76 x1
              else
                cI (0) fun z80 =>
                j76 z80
def g_X9_spill (x1 : Int) (x2 : Int) (x3 : Int) (x4 : Int) (h : Hp) : Option (Int × Hp) :=
  i2lI x1 fun z1 =>
  cI (0) fun z2 =>
  cI (60) fun z3 =>
  cP (g_X9_in z1 z2 z3) fun z4 =>
  joinF (fun (a5 : Unit) =>
    cI (-2) fun z7 =>
    some (z7, h)) fun j6 =>
  if z4 = 0 then
    j6 ()
  else
    cP (g_X9_isSand x2 x3) fun z8 =>
    if z8 = 0 then
      j6 ()
    else
      i2lI x4 fun z9 =>
      cI (0) fun z10 =>
      cI (8) fun z11 =>
      cP (g_X9_in z9 z10 z11) fun z12 =>
      if z12 = 0 then
        j6 ()
      else
        cP (g_X9_holdsOf x2 x3 h) fun z13 =>
        cI (0) fun z14 =>
        joinF (fun (a15 : Hp) =>
          cI (1) fun z18 =>
          loopF (g_X9_spill_l20 x4 z13) FU (z18, a15)) fun j16 =>
        loopF (g_X9_spill_l70 j16 x1) FU (z14, h)
def g_X9_isTelling (x1 : Int) (h : Hp) : Option (Int) :=
  i2lI x1 fun z1 =>
  gF h 100 53 fun z2 =>
  i2lI z2 fun z3 =>
  cI (999) fun z4 =>
  cP (g_X9_in z1 z3 z4) fun z5 =>
  retZ z5
def g_X9_trial (x1 : Int) (x2 : Int) (x3 : Int) (x4 : Int) (h : Hp) : Option (Int × Hp) :=
  cP (g_X9_isTelling x1 h) fun z1 =>
  joinF (fun (a2 : Unit) =>
    cI (-2) fun z4 =>
    some (z4, h)) fun j3 =>
  if z1 = 0 then
    j3 ()
  else
    i2lI x2 fun z5 =>
    cI (1) fun z6 =>
    cI (15) fun z7 =>
    cP (g_X9_in z5 z6 z7) fun z8 =>
    if z8 = 0 then
      j3 ()
    else
      i2lI x3 fun z9 =>
      cI (1) fun z10 =>
      cI (30) fun z11 =>
      cP (g_X9_in z9 z10 z11) fun z12 =>
      if z12 = 0 then
        j3 ()
      else
        i2lI x4 fun z13 =>
        cI (0) fun z14 =>
        cI (1) fun z15 =>
        cP (g_X9_in z13 z14 z15) fun z16 =>
        if z16 = 0 then
          j3 ()
        else
          gF h 100 51 fun z17 =>
          cI (16) fun z18 =>
          if z17 = z18 then
            cI (-3) fun z35 =>
            some (z35, h)
          else
            pF h 100 53 x1 fun h19 =>
            gF h19 100 51 fun z20 =>
            wrI h19 126 16 z20 x2 fun h21 =>
            gF h21 100 51 fun z22 =>
            wrI h21 127 16 z22 x3 fun h23 =>
            gF h23 100 51 fun z24 =>
            wrI h23 128 16 z24 x4 fun h25 =>
            gF h25 100 51 fun z26 =>
            wrI h25 129 16 z26 x1 fun h27 =>
            gF h27 100 51 fun z28 =>
            cI (1) fun z29 =>
            addI z28 z29 fun z30 =>
            pF h27 100 51 z30 fun h31 =>
            gF h31 100 51 fun z32 =>
            cI (1) fun z33 =>
            subI z32 z33 fun z34 =>
            some (z34, h31)
def g_X9_right_l32 (h28 : Hp) (x2 : Int) (l32 : Int × Int → Option (Int × Hp)) (q31 : Int × Int) : Option (Int × Hp) :=
              gF h28 100 52 fun z35 =>
              if z35 ≤ q31.2 then
                some (q31.1, h28)
              else
                rdI h28 130 20 q31.2 fun z36 =>
                joinF (fun (a37 : Int) =>
                  addI q31.1 a37 fun z40 =>
                  addI q31.2 (1) fun z41 =>
                  l32 (z40, z41)) fun j38 =>
                if z36 = x2 then
                  cI (1) fun z43 =>
                  j38 z43
                else
                  cI (0) fun z42 =>
                  j38 z42
def g_X9_right (x1 : Int) (x2 : Int) (x3 : Int) (h : Hp) : Option (Int × Hp) :=
  cP (g_X9_isTelling x1 h) fun z1 =>
  joinF (fun (a2 : Unit) =>
    cI (-2) fun z4 =>
    some (z4, h)) fun j3 =>
  if z1 = 0 then
    j3 ()
  else
    i2lI x2 fun z5 =>
    cI (0) fun z6 =>
    gF h 100 51 fun z7 =>
    i2lI z7 fun z8 =>
    cI (1) fun z9 =>
    lsubI z8 z9 fun z10 =>
    cP (g_X9_in z5 z6 z10) fun z11 =>
    if z11 = 0 then
      j3 ()
    else
      i2lI x3 fun z12 =>
      cI (0) fun z13 =>
      cI (1) fun z14 =>
      cP (g_X9_in z12 z13 z14) fun z15 =>
      if z15 = 0 then
        j3 ()
      else
        gF h 100 52 fun z16 =>
        cI (20) fun z17 =>
        if z16 = z17 then
          cI (-3) fun z44 =>
          some (z44, h)
        else
          pF h 100 53 x1 fun h18 =>
          gF h18 100 52 fun z19 =>
          wrI h18 130 20 z19 x2 fun h20 =>
          gF h20 100 52 fun z21 =>
          wrI h20 131 20 z21 x3 fun h22 =>
          gF h22 100 52 fun z23 =>
          wrI h22 132 20 z23 x1 fun h24 =>
          gF h24 100 52 fun z25 =>
          cI (1) fun z26 =>
          addI z25 z26 fun z27 =>
          pF h24 100 52 z27 fun h28 =>
          cI (0) fun z29 =>
          cI (0) fun z30 =>
          loopF (g_X9_right_l32 h28 x2) FU (z29, z30)
def g_X9_stoodBy_l4 (h : Hp) (x1 : Int) (x2 : Int) (l4 : Int × Int → Option (Int)) (q3 : Int × Int) : Option (Int) :=
      gF h 100 52 fun z7 =>
      if z7 ≤ q3.2 then
        some q3.1
      else
        rdI h 130 20 q3.2 fun z8 =>
        joinF (fun (a9 : Int) =>
          addI q3.2 (1) fun z12 =>
          l4 (a9, z12)) fun j10 =>
        if z8 = x1 then
          rdI h 132 20 q3.2 fun z13 =>
          if x2 < z13 then
            j10 q3.1
          else
            rdI h 131 20 q3.2 fun z14 =>
            j10 z14
        else
          j10 q3.1
def g_X9_stoodBy (x1 : Int) (x2 : Int) (h : Hp) : Option (Int) :=
  rdI h 128 16 x1 fun z1 =>
  cI (0) fun z2 =>
  loopF (g_X9_stoodBy_l4 h x1 x2) FU (z1, z2)
def g_X9_stands (x1 : Int) (x2 : Int) (x3 : Int) (x4 : Int) (x5 : Int) : Option (Int) :=
  cI (1) fun z1 =>
  cI (0) fun z2 =>
  subI x4 x1 fun z3 =>
  absI z3 fun z4 =>
  mulI x3 z4 fun z5 =>
  subI x2 z5 fun z6 =>
  maxI z2 z6 fun z7 =>
  addI z1 z7 fun z8 =>
  joinF (fun (a9 : Int) =>
    retZ a9) fun j10 =>
  if z8 < x5 then
    cI (0) fun z12 =>
    j10 z12
  else
    cI (1) fun z13 =>
    j10 z13
def g_X9_fits_l3 (h : Hp) (x1 : Int) (x2 : Int) (x3 : Int) (x4 : Int) (l3 : Int → Option (Int)) (q2 : Int) : Option (Int) :=
      gF h 100 51 fun z5 =>
      if z5 ≤ q2 then
        cI (1) fun z6 =>
        retZ z6
      else
        rdI h 129 16 q2 fun z7 =>
        joinF (fun (a8 : Unit) =>
          addI q2 (1) fun z10 =>
          l3 z10) fun j9 =>
        if x4 < z7 then
          j9 ()
        else
          rdI h 126 16 q2 fun z11 =>
          rdI h 127 16 q2 fun z12 =>
          cP (g_X9_stands x1 x2 x3 z11 z12) fun z13 =>
          cP (g_X9_stoodBy q2 x4 h) fun z14 =>
          cI (1) fun z15 =>
          joinF (fun (a16 : Int) =>
            if z13 = a16 then
              j9 ()
            else
              cI (0) fun z19 =>
              retZ z19) fun j17 =>
          if z14 = z15 then
            cI (1) fun z21 =>
            j17 z21
          else
            cI (0) fun z20 =>
            j17 z20
def g_X9_fits (x1 : Int) (x2 : Int) (x3 : Int) (x4 : Int) (h : Hp) : Option (Int) :=
  cI (0) fun z1 =>
  loopF (g_X9_fits_l3 h x1 x2 x3 x4) FU z1
def g_X9_humps_l68 (h : Hp) (j60 : Int × Int × Int × Int × Int → Option (Int)) (q31 : Int × Int × Int × Int × Int × Int) (q49 : Int × Int × Int × Int × Int × Int) (x1 : Int) (l68 : Int × Int × Int × Int × Int × Int → Option (Int)) (q67 : Int × Int × Int × Int × Int × Int) : Option (Int) :=
                      cI (5) fun z75 =>
                      if z75 < q67.2.2.2.2.2 then
                        j60 (q67.1, q67.2.1, q67.2.2.1, q67.2.2.2.1, q67.2.2.2.2.1)
                      else
                        cP (g_X9_fits q31.2.2.2.2.2 q49.2.2.2.2.2 q67.2.2.2.2.2 x1 h) fun z76 =>
                        joinF (fun (a77 : Int × Int × Int × Int × Int) =>
                          addI q67.2.2.2.2.2 (1) fun z84 =>
                          l68 (a77.1, a77.2.1, a77.2.2.1, a77.2.2.2.1, a77.2.2.2.2, z84)) fun j78 =>
                        if z76 = 0 then
                          j78 (q67.1, q67.2.1, q67.2.2.1, q67.2.2.2.1, q67.2.2.2.2.1)
                        else
                          addI q67.1 (1) fun z85 =>
                          cI (-1) fun z86 =>
                          joinF (fun (a87 : Int) =>
                            cI (-1) fun z90 =>
                            joinF (fun (a91 : Int) =>
                              maxI q67.2.2.2.2.1 q49.2.2.2.2.2 fun z94 =>
                              j78 (z85, a87, q31.2.2.2.2.2, a91, z94)) fun j92 =>
                            if q67.2.2.2.1 = z90 then
                              j92 q49.2.2.2.2.2
                            else
                              minI q67.2.2.2.1 q49.2.2.2.2.2 fun z95 =>
                              j92 z95) fun j88 =>
                          if q67.2.1 = z86 then
                            j88 q31.2.2.2.2.2
                          else
                            j88 q67.2.1
def g_X9_humps_l50 (h : Hp) (j42 : Int × Int × Int × Int × Int → Option (Int)) (q31 : Int × Int × Int × Int × Int × Int) (x1 : Int) (l50 : Int × Int × Int × Int × Int × Int → Option (Int)) (q49 : Int × Int × Int × Int × Int × Int) : Option (Int) :=
                cI (20) fun z57 =>
                if z57 < q49.2.2.2.2.2 then
                  j42 (q49.1, q49.2.1, q49.2.2.1, q49.2.2.2.1, q49.2.2.2.2.1)
                else
                  cI (1) fun z58 =>
                  joinF (fun (a59 : Int × Int × Int × Int × Int) =>
                    addI q49.2.2.2.2.2 (1) fun z66 =>
                    l50 (a59.1, a59.2.1, a59.2.2.1, a59.2.2.2.1, a59.2.2.2.2, z66)) fun j60 =>
                  loopF (g_X9_humps_l68 h j60 q31 q49 x1) FU (q49.1, q49.2.1, q49.2.2.1, q49.2.2.2.1, q49.2.2.2.2.1, z58)
def g_X9_humps_l32 (h : Hp) (j19 : Int × Int × Int × Int × Int → Option (Int)) (x1 : Int) (l32 : Int × Int × Int × Int × Int × Int → Option (Int)) (q31 : Int × Int × Int × Int × Int × Int) : Option (Int) :=
          cI (15) fun z39 =>
          if z39 < q31.2.2.2.2.2 then
            j19 (q31.1, q31.2.1, q31.2.2.1, q31.2.2.2.1, q31.2.2.2.2.1)
          else
            cI (0) fun z40 =>
            joinF (fun (a41 : Int × Int × Int × Int × Int) =>
              addI q31.2.2.2.2.2 (1) fun z48 =>
              l32 (a41.1, a41.2.1, a41.2.2.1, a41.2.2.2.1, a41.2.2.2.2, z48)) fun j42 =>
            loopF (g_X9_humps_l50 h j42 q31 x1) FU (q31.1, q31.2.1, q31.2.2.1, q31.2.2.2.1, q31.2.2.2.2.1, z40)
def g_X9_humps (x1 : Int) (x2 : Int) (h : Hp) : Option (Int) :=
  i2lI x1 fun z1 =>
  cI (0) fun z2 =>
  cI (999) fun z3 =>
  cP (g_X9_in z1 z2 z3) fun z4 =>
  joinF (fun (a5 : Unit) =>
    cI (-2) fun z7 =>
    some z7) fun j6 =>
  if z4 = 0 then
    j6 ()
  else
    i2lI x2 fun z8 =>
    cI (0) fun z9 =>
    cI (4) fun z10 =>
    cP (g_X9_in z8 z9 z10) fun z11 =>
    if z11 = 0 then
      j6 ()
    else
      cI (0) fun z12 =>
      cI (-1) fun z13 =>
      cI (-1) fun z14 =>
      cI (-1) fun z15 =>
      cI (-1) fun z16 =>
      cI (1) fun z17 =>
      joinF (fun (a18 : Int × Int × Int × Int × Int) =>
        joinF (fun (a25 : Int) =>
          some a25) fun j26 =>
        if x2 = 0 then
          j26 a18.1
        else
          cI (1) fun z28 =>
          if x2 = z28 then
            j26 a18.2.1
          else
            cI (2) fun z29 =>
            if x2 = z29 then
              j26 a18.2.2.1
            else
              cI (3) fun z30 =>
              if x2 = z30 then
                j26 a18.2.2.2.1
              else
                j26 a18.2.2.2.2) fun j19 =>
      loopF (g_X9_humps_l32 h j19 x1) FU (z12, z13, z14, z15, z16, z17)
def g_X9_next_l26 (a7 : Int × Hp) (j21 : Int × Int → Option (Int × Hp)) (q13 : Int × Int × Int) (l26 : Int × Int × Int → Option (Int × Hp)) (q25 : Int × Int × Int) : Option (Int × Hp) :=
                cI (30) fun z30 =>
                if z30 < q25.2.2 then
                  j21 (q25.1, q25.2.1)
                else
                  cI (31) fun z31 =>
                  mulI z31 q13.2.2 fun z32 =>
                  addI z32 q25.2.2 fun z33 =>
                  rdI a7.2 133 496 z33 fun z34 =>
                  cI (31) fun z35 =>
                  mulI z35 q13.2.2 fun z36 =>
                  addI z36 q25.2.2 fun z37 =>
                  rdI a7.2 133 496 z37 fun z38 =>
                  subI a7.1 z38 fun z39 =>
                  maxI z34 z39 fun z40 =>
                  joinF (fun (a41 : Int × Int) =>
                    addI q25.2.2 (1) fun z45 =>
                    l26 (a41.1, a41.2, z45)) fun j42 =>
                  if z40 < q25.1 then
                    cI (100) fun z46 =>
                    mulI z46 q13.2.2 fun z47 =>
                    addI z47 q25.2.2 fun z48 =>
                    j42 (z40, z48)
                  else
                    j42 (q25.1, q25.2.1)
def g_X9_next_l14 (a7 : Int × Hp) (l14 : Int × Int × Int → Option (Int × Hp)) (q13 : Int × Int × Int) : Option (Int × Hp) :=
          cI (15) fun z18 =>
          if z18 < q13.2.2 then
            some (q13.2.1, a7.2)
          else
            cI (1) fun z19 =>
            joinF (fun (a20 : Int × Int) =>
              addI q13.2.2 (1) fun z24 =>
              l14 (a20.1, a20.2, z24)) fun j21 =>
            loopF (g_X9_next_l26 a7 j21 q13) FU (q13.1, q13.2.1, z19)
def g_X9_next_l99 (j95 : Hp → Option (Int × Hp)) (q49 : Int × Int × Hp) (q61 : Int × Int × Hp) (q73 : Int × Int × Hp) (q88 : Int × Hp) (l99 : Int × Hp → Option (Int × Hp)) (q98 : Int × Hp) : Option (Int × Hp) :=
                                  cI (30) fun z102 =>
                                  if z102 < q98.1 then
                                    j95 q98.2
                                  else
                                    cI (31) fun z103 =>
                                    mulI z103 q88.1 fun z104 =>
                                    addI z104 q98.1 fun z105 =>
                                    rdI q98.2 133 496 z105 fun z106 =>
                                    cP (g_X9_stands q49.2.1 q61.2.1 q73.2.1 q88.1 q98.1) fun z107 =>
                                    joinF (fun (a108 : Int) =>
                                      addI z106 a108 fun z111 =>
                                      wrI q98.2 133 496 z105 z111 fun h112 =>
                                      addI q98.1 (1) fun z113 =>
                                      l99 (z113, h112)) fun j109 =>
                                    if z107 = 0 then
                                      cI (0) fun z114 =>
                                      j109 z114
                                    else
                                      cI (1) fun z115 =>
                                      j109 z115
def g_X9_next_l89 (j82 : Int × Hp → Option (Int × Hp)) (q49 : Int × Int × Hp) (q61 : Int × Int × Hp) (q73 : Int × Int × Hp) (z86 : Int) (l89 : Int × Hp → Option (Int × Hp)) (q88 : Int × Hp) : Option (Int × Hp) :=
                            cI (15) fun z92 =>
                            if z92 < q88.1 then
                              j82 (z86, q88.2)
                            else
                              cI (1) fun z93 =>
                              joinF (fun (a94 : Hp) =>
                                addI q88.1 (1) fun z97 =>
                                l89 (z97, a94)) fun j95 =>
                              loopF (g_X9_next_l99 j95 q49 q61 q73 q88) FU (z93, q88.2)
def g_X9_next_l74 (j69 : Int × Hp → Option (Int × Hp)) (q49 : Int × Int × Hp) (q61 : Int × Int × Hp) (l74 : Int × Int × Hp → Option (Int × Hp)) (q73 : Int × Int × Hp) : Option (Int × Hp) :=
                    cI (5) fun z78 =>
                    if z78 < q73.2.1 then
                      j69 (q73.1, q73.2.2)
                    else
                      cI (999) fun z79 =>
                      cP (g_X9_fits q49.2.1 q61.2.1 q73.2.1 z79 q73.2.2) fun z80 =>
                      joinF (fun (a81 : Int × Hp) =>
                        addI q73.2.1 (1) fun z85 =>
                        l74 (a81.1, z85, a81.2)) fun j82 =>
                      if z80 = 0 then
                        j82 (q73.1, q73.2.2)
                      else
                        addI q73.1 (1) fun z86 =>
                        cI (1) fun z87 =>
                        loopF (g_X9_next_l89 j82 q49 q61 q73 z86) FU (z87, q73.2.2)
def g_X9_next_l62 (j57 : Int × Hp → Option (Int × Hp)) (q49 : Int × Int × Hp) (l62 : Int × Int × Hp → Option (Int × Hp)) (q61 : Int × Int × Hp) : Option (Int × Hp) :=
              cI (20) fun z66 =>
              if z66 < q61.2.1 then
                j57 (q61.1, q61.2.2)
              else
                cI (1) fun z67 =>
                joinF (fun (a68 : Int × Hp) =>
                  addI q61.2.1 (1) fun z72 =>
                  l62 (a68.1, z72, a68.2)) fun j69 =>
                loopF (g_X9_next_l74 j69 q49 q61) FU (q61.1, z67, q61.2.2)
def g_X9_next_l50 (j8 : Int × Hp → Option (Int × Hp)) (l50 : Int × Int × Hp → Option (Int × Hp)) (q49 : Int × Int × Hp) : Option (Int × Hp) :=
        cI (15) fun z54 =>
        if z54 < q49.2.1 then
          j8 (q49.1, q49.2.2)
        else
          cI (0) fun z55 =>
          joinF (fun (a56 : Int × Hp) =>
            addI q49.2.1 (1) fun z60 =>
            l50 (a56.1, z60, a56.2)) fun j57 =>
          loopF (g_X9_next_l62 j57 q49) FU (q49.1, z55, q49.2.2)
def g_X9_next_l117 (j4 : Hp → Option (Int × Hp)) (l117 : Int × Hp → Option (Int × Hp)) (q116 : Int × Hp) : Option (Int × Hp) :=
      cI (496) fun z120 =>
      if z120 ≤ q116.1 then
        j4 q116.2
      else
        cI (0) fun z121 =>
        wrI q116.2 133 496 q116.1 z121 fun h122 =>
        addI q116.1 (1) fun z123 =>
        l117 (z123, h122)
def g_X9_next (h : Hp) : Option (Int × Hp) :=
  cI (0) fun z1 =>
  cI (0) fun z2 =>
  joinF (fun (a3 : Hp) =>
    cI (1) fun z6 =>
    joinF (fun (a7 : Int × Hp) =>
      cI (-1) fun z11 =>
      cI (1) fun z12 =>
      loopF (g_X9_next_l14 a7) FU (a7.1, z11, z12)) fun j8 =>
    loopF (g_X9_next_l50 j8) FU (z1, z6, a3)) fun j4 =>
  loopF (g_X9_next_l117 j4) FU (z2, h)
def g_X9_beginTrial_l9 (j3 : Hp → Option (Hp)) (l9 : Int × Hp → Option (Hp)) (q8 : Int × Hp) : Option (Hp) :=
      cI (289) fun z12 =>
      if z12 ≤ q8.1 then
        j3 q8.2
      else
        rdI q8.2 121 289 q8.1 fun z13 =>
        wrI q8.2 122 289 q8.1 z13 fun h14 =>
        addI q8.1 (1) fun z15 =>
        l9 (z15, h14)
def g_X9_beginTrial (x1 : Int) (x2 : Int) (h : Hp) : Option (Hp) :=
  cI (0) fun z1 =>
  joinF (fun (a2 : Hp) =>
    cI (288) fun z5 =>
    wrI a2 122 289 z5 x2 fun h6 =>
    cV (g_X9_putPlan 122 x1 h6) fun h7 =>
    some h7) fun j3 =>
  loopF (g_X9_beginTrial_l9 j3) FU (z1, h)
def g_X9_lastOf (x1 : Int) (x2 : Int) (h : Hp) : Option (Int) :=
  cI (264) fun z1 =>
  addI z1 x1 fun z2 =>
  rdI h 122 289 z2 fun z3 =>
  cI (-1) fun z4 =>
  if z3 = z4 then
    some x2
  else
    cI (0) fun z5 =>
    cI (264) fun z6 =>
    addI z6 x1 fun z7 =>
    rdI h 122 289 z7 fun z8 =>
    cI (270) fun z9 =>
    rdI h 121 289 z9 fun z10 =>
    subI z8 z10 fun z11 =>
    maxI z5 z11 fun z12 =>
    some z12
def g_X9_areMinutes (x1 : Int) : Option (Int) :=
  i2lI x1 fun z1 =>
  cI (1) fun z2 =>
  cI (99) fun z3 =>
  cP (g_X9_in z1 z2 z3) fun z4 =>
  retZ z4
def g_X9_last_l12 (x1 : Int) (x4 : Int) (l12 : Int × Hp → Option (Int × Hp)) (q11 : Int × Hp) : Option (Int × Hp) :=
              if x4 ≤ q11.1 then
                cP (g_X9_lastOf x1 x4 q11.2) fun z15 =>
                some (z15, q11.2)
              else
                cV (g_X9_minute 122 q11.2) fun h16 =>
                addI q11.1 (1) fun z17 =>
                l12 (z17, h16)
def g_X9_last (x1 : Int) (x2 : Int) (x3 : Int) (x4 : Int) (h : Hp) : Option (Int × Hp) :=
  cP (g_X9_isFlag x1 h) fun z1 =>
  joinF (fun (a2 : Unit) =>
    cI (-2) fun z4 =>
    some (z4, h)) fun j3 =>
  if z1 = 0 then
    j3 ()
  else
    cI (-1) fun z5 =>
    joinF (fun (a6 : Unit) =>
      if x3 < 0 then
        j3 ()
      else
        cP (g_X9_areMinutes x4) fun z8 =>
        if z8 = 0 then
          j3 ()
        else
          cV (g_X9_beginTrial x2 x3 h) fun h9 =>
          cI (0) fun z10 =>
          loopF (g_X9_last_l12 x1 x4) FU (z10, h9)) fun j7 =>
    if x2 = z5 then
      j7 ()
    else
      cP (g_X9_isPlan x2 h) fun z18 =>
      if z18 = 0 then
        j3 ()
      else
        j7 ()
def g_X9_works (x1 : Int) (x2 : Int) (h : Hp) : Option (Hp) :=
  cI (256) fun z1 =>
  addI z1 x2 fun z2 =>
  rdI h 121 289 z2 fun z3 =>
  gF h 100 10 fun z4 =>
  joinF (fun (a5 : Int) =>
    gF h 100 10 fun z8 =>
    addI z3 z8 fun z9 =>
    gF h 100 10 fun z10 =>
    gF h 100 11 fun z11 =>
    mulI z10 z11 fun z12 =>
    joinF (fun (a13 : Int) =>
      joinF (fun (a16 : Hp) =>
        cI (1) fun z19 =>
        joinF (fun (a20 : Hp) =>
          cI (2) fun z23 =>
          joinF (fun (a24 : Hp) =>
            cI (3) fun z27 =>
            joinF (fun (a28 : Hp) =>
              some a28) fun j29 =>
            if x1 = z27 then
              cI (2) fun z31 =>
              cI (-1) fun z32 =>
              cV (g_X9_does 122 z31 z3 z32 a24) fun h33 =>
              j29 h33
            else
              j29 a24) fun j25 =>
          if x1 = z23 then
            if a13 = 0 then
              j25 a20
            else
              cI (0) fun z34 =>
              gF a20 100 10 fun z35 =>
              addI z3 z35 fun z36 =>
              cV (g_X9_does 122 z34 z36 z3 a20) fun h37 =>
              j25 h37
          else
            j25 a20) fun j21 =>
        if x1 = z19 then
          if a5 = 0 then
            j21 a16
          else
            cI (0) fun z38 =>
            gF a16 100 10 fun z39 =>
            subI z3 z39 fun z40 =>
            cV (g_X9_does 122 z38 z40 z3 a16) fun h41 =>
            j21 h41
        else
          j21 a16) fun j17 =>
      if x1 = 0 then
        if a5 = 0 then
          j17 h
        else
          cI (3) fun z42 =>
          gF h 100 10 fun z43 =>
          subI z3 z43 fun z44 =>
          cI (-1) fun z45 =>
          cV (g_X9_does 122 z42 z44 z45 h) fun h46 =>
          j17 h46
      else
        j17 h) fun j14 =>
    if z12 ≤ z9 then
      cI (0) fun z47 =>
      j14 z47
    else
      cI (1) fun z48 =>
      j14 z48) fun j6 =>
  if z3 < z4 then
    cI (0) fun z49 =>
    j6 z49
  else
    cI (1) fun z50 =>
    j6 z50
def g_X9_lastByRow_l5 (x1 : Int) (x2 : Int) (x3 : Int) (x5 : Int) (l5 : Int × Hp → Option (Int × Hp)) (q4 : Int × Hp) : Option (Int × Hp) :=
      if x5 ≤ q4.1 then
        cP (g_X9_lastOf x1 x5 q4.2) fun z8 =>
        some (z8, q4.2)
      else
        joinF (fun (a9 : Hp) =>
          cV (g_X9_finish 122 a9) fun h12 =>
          addI q4.1 (1) fun z13 =>
          l5 (z13, h12)) fun j10 =>
        if x2 ≤ q4.1 then
          j10 q4.2
        else
          cI (2) fun z14 =>
          cI (1) fun z15 =>
          subI x2 z15 fun z16 =>
          subI z16 q4.1 fun z17 =>
          mulI z14 z17 fun z18 =>
          shrI x3 z18 fun z19 =>
          cI (3) fun z20 =>
          andI z19 z20 fun z21 =>
          cV (g_X9_works z21 x1 q4.2) fun h22 =>
          j10 h22
def g_X9_lastByRow (x1 : Int) (x2 : Int) (x3 : Int) (x4 : Int) (x5 : Int) (h : Hp) : Option (Int × Hp) :=
  cI (-1) fun z1 =>
  cV (g_X9_beginTrial z1 x4 h) fun h2 =>
  cI (0) fun z3 =>
  loopF (g_X9_lastByRow_l5 x1 x2 x3 x5) FU (z3, h2)
def g_X9_bestRow_l12 (a4 : Int × Hp) (l12 : Int × Int → Option (Int × Hp)) (q11 : Int × Int) : Option (Int × Hp) :=
        if q11.2 < 0 then
          some (q11.1, a4.2)
        else
          cI (10) fun z15 =>
          mulI z15 q11.1 fun z16 =>
          cI (2) fun z17 =>
          mulI z17 q11.2 fun z18 =>
          shrI a4.1 z18 fun z19 =>
          cI (3) fun z20 =>
          andI z19 z20 fun z21 =>
          addI z16 z21 fun z22 =>
          addI q11.2 (-1) fun z23 =>
          l12 (z22, z23)
def g_X9_bestRow_l25 (j5 : Int × Hp → Option (Int × Hp)) (x1 : Int) (x2 : Int) (x3 : Int) (x4 : Int) (l25 : Int × Int × Int × Hp → Option (Int × Hp)) (q24 : Int × Int × Int × Hp) : Option (Int × Hp) :=
      cI (1) fun z30 =>
      cI (2) fun z31 =>
      mulI z31 x2 fun z32 =>
      shlI z30 z32 fun z33 =>
      if z33 ≤ q24.2.2.1 then
        j5 (q24.1, q24.2.2.2)
      else
        cW (g_X9_lastByRow x1 x2 q24.2.2.1 x3 x4 q24.2.2.2) fun z34 h35 =>
        joinF (fun (a36 : Int × Int) =>
          addI q24.2.2.1 (1) fun z40 =>
          l25 (a36.1, a36.2, z40, h35)) fun j37 =>
        if q24.2.1 < z34 then
          j37 (q24.2.2.1, z34)
        else
          j37 (q24.1, q24.2.1)
def g_X9_bestRow (x1 : Int) (x2 : Int) (x3 : Int) (x4 : Int) (h : Hp) : Option (Int × Hp) :=
  cI (0) fun z1 =>
  cI (-1) fun z2 =>
  cI (0) fun z3 =>
  joinF (fun (a4 : Int × Hp) =>
    cI (0) fun z8 =>
    cI (1) fun z9 =>
    subI x2 z9 fun z10 =>
    loopF (g_X9_bestRow_l12 a4) FU (z8, z10)) fun j5 =>
  loopF (g_X9_bestRow_l25 j5 x1 x2 x3 x4) FU (z1, z2, z3, h)
def g_X9_isAsked (x1 : Int) (x2 : Int) (x3 : Int) (h : Hp) : Option (Int) :=
  cP (g_X9_isFlag x1 h) fun z1 =>
  joinF (fun (a2 : Int) =>
    retZ a2) fun j3 =>
  joinF (fun (a5 : Unit) =>
    cI (0) fun z7 =>
    j3 z7) fun j6 =>
  if z1 = 0 then
    j6 ()
  else
    if x2 < 0 then
      j6 ()
    else
      cP (g_X9_areMinutes x3) fun z8 =>
      if z8 = 0 then
        j6 ()
      else
        cI (1) fun z9 =>
        j3 z9
def g_X9_pail (x1 : Int) (x2 : Int) (x3 : Int) (h : Hp) : Option (Int × Hp) :=
  cP (g_X9_isAsked x1 x2 x3 h) fun z1 =>
  joinF (fun (a2 : Int × Hp) =>
    some (a2.1, a2.2)) fun j3 =>
  if z1 = 0 then
    cI (-2) fun z6 =>
    j3 (z6, h)
  else
    cI (2) fun z7 =>
    cW (g_X9_bestRow x1 z7 x2 x3 h) fun z8 h9 =>
    j3 (z8, h9)
def g_X9_row (x1 : Int) (x2 : Int) (x3 : Int) (x4 : Int) (h : Hp) : Option (Int × Hp) :=
  cP (g_X9_isAsked x1 x3 x4 h) fun z1 =>
  joinF (fun (a2 : Int × Hp) =>
    some (a2.1, a2.2)) fun j3 =>
  joinF (fun (a6 : Unit) =>
    cI (-2) fun z8 =>
    j3 (z8, h)) fun j7 =>
  if z1 = 0 then
    j7 ()
  else
    i2lI x2 fun z9 =>
    cI (1) fun z10 =>
    cI (4) fun z11 =>
    cP (g_X9_in z9 z10 z11) fun z12 =>
    if z12 = 0 then
      j7 ()
    else
      cW (g_X9_bestRow x1 x2 x3 x4 h) fun z13 h14 =>
      j3 (z13, h14)
def g_X9_lastByWet_l5 (x1 : Int) (x2 : Int) (x4 : Int) (l5 : Int × Hp → Option (Int × Hp)) (q4 : Int × Hp) : Option (Int × Hp) :=
      if x4 ≤ q4.1 then
        cP (g_X9_lastOf x1 x4 q4.2) fun z8 =>
        some (z8, q4.2)
      else
        joinF (fun (a9 : Hp) =>
          cV (g_X9_finish 122 a9) fun h12 =>
          addI q4.1 (1) fun z13 =>
          l5 (z13, h12)) fun j10 =>
        if q4.1 = x2 then
          cI (3) fun z14 =>
          cV (g_X9_works z14 x1 q4.2) fun h15 =>
          j10 h15
        else
          j10 q4.2
def g_X9_lastByWet (x1 : Int) (x2 : Int) (x3 : Int) (x4 : Int) (h : Hp) : Option (Int × Hp) :=
  cI (-1) fun z1 =>
  cV (g_X9_beginTrial z1 x3 h) fun h2 =>
  cI (0) fun z3 =>
  loopF (g_X9_lastByWet_l5 x1 x2 x4) FU (z3, h2)
def g_X9_again_l8 (x1 : Int) (x2 : Int) (x3 : Int) (l8 : Int × Int × Int × Hp → Option (Int × Hp)) (q7 : Int × Int × Int × Hp) : Option (Int × Hp) :=
        if x3 ≤ q7.2.2.1 then
          some (q7.2.1, q7.2.2.2)
        else
          cW (g_X9_lastByWet x1 q7.2.2.1 x2 x3 q7.2.2.2) fun z13 h14 =>
          joinF (fun (a15 : Int × Int) =>
            addI q7.2.2.1 (1) fun z19 =>
            l8 (a15.1, a15.2, z19, h14)) fun j16 =>
          if q7.1 < z13 then
            j16 (z13, q7.2.2.1)
          else
            j16 (q7.1, q7.2.1)
def g_X9_again (x1 : Int) (x2 : Int) (x3 : Int) (h : Hp) : Option (Int × Hp) :=
  cP (g_X9_isAsked x1 x2 x3 h) fun z1 =>
  if z1 = 0 then
    cI (-2) fun z20 =>
    some (z20, h)
  else
    cI (-1) fun z2 =>
    cW (g_X9_lastByWet x1 z2 x2 x3 h) fun z3 h4 =>
    cI (-1) fun z5 =>
    cI (0) fun z6 =>
    loopF (g_X9_again_l8 x1 x2 x3) FU (z3, z5, z6, h4)
def g_X9_areSeeds (x1 : Int) : Option (Int) :=
  i2lI x1 fun z1 =>
  cI (1) fun z2 =>
  cI (9) fun z3 =>
  cP (g_X9_in z1 z2 z3) fun z4 =>
  retZ z4
def g_X9_stand_l60 (j53 : Hp → Option (Int × Hp)) (x3 : Int) (l60 : Int × Hp → Option (Int × Hp)) (q59 : Int × Hp) : Option (Int × Hp) :=
                          if x3 ≤ q59.1 then
                            j53 q59.2
                          else
                            cV (g_X9_minute 122 q59.2) fun h63 =>
                            addI q59.1 (1) fun z64 =>
                            l60 (z64, h63)
def g_X9_stand_l39 (j35 : Int × Hp → Option (Int × Hp)) (q13 : Int × Int × Int × Hp) (x1 : Int) (x2 : Int) (x3 : Int) (l39 : Int × Int × Hp → Option (Int × Hp)) (q38 : Int × Int × Hp) : Option (Int × Hp) :=
                    if x2 < q38.2.1 then
                      j35 (q38.1, q38.2.2)
                    else
                      cI (-1) fun z43 =>
                      cV (g_X9_beginTrial z43 q38.2.1 q38.2.2) fun h44 =>
                      cI (0) fun z45 =>
                      addI z45 q13.2.2.1 fun z46 =>
                      rdI h44 122 289 z46 fun z47 =>
                      addI z47 x1 fun z48 =>
                      wrI h44 122 289 z46 z48 fun h49 =>
                      cV (g_X9_putFlag 122 q13.2.2.1 h49) fun h50 =>
                      cI (0) fun z51 =>
                      joinF (fun (a52 : Hp) =>
                        gF a52 100 12 fun z55 =>
                        cP (g_X9_lastOf z55 x3 a52) fun z56 =>
                        addI q38.1 z56 fun z57 =>
                        addI q38.2.1 (1) fun z58 =>
                        l39 (z57, z58, a52)) fun j53 =>
                      loopF (g_X9_stand_l60 j53 x3) FU (z51, h50)
def g_X9_stand_l14 (x1 : Int) (x2 : Int) (x3 : Int) (l14 : Int × Int × Int × Hp → Option (Int × Hp)) (q13 : Int × Int × Int × Hp) : Option (Int × Hp) :=
            gF q13.2.2.2 100 10 fun z19 =>
            gF q13.2.2.2 100 11 fun z20 =>
            mulI z19 z20 fun z21 =>
            if z21 ≤ q13.2.2.1 then
              some (q13.1, q13.2.2.2)
            else
              cI (192) fun z22 =>
              addI z22 q13.2.2.1 fun z23 =>
              rdI q13.2.2.2 121 289 z23 fun z24 =>
              cI (1) fun z25 =>
              joinF (fun (a26 : Int × Int × Hp) =>
                addI q13.2.2.1 (1) fun z31 =>
                l14 (a26.1, a26.2.1, z31, a26.2.2)) fun j27 =>
              if z24 = z25 then
                j27 (q13.1, q13.2.1, q13.2.2.2)
              else
                cI (0) fun z32 =>
                cI (1) fun z33 =>
                joinF (fun (a34 : Int × Hp) =>
                  if q13.2.1 < a34.1 then
                    j27 (q13.2.2.1, a34.1, a34.2)
                  else
                    j27 (q13.1, q13.2.1, a34.2)) fun j35 =>
                loopF (g_X9_stand_l39 j35 q13 x1 x2 x3) FU (z32, z33, q13.2.2.2)
def g_X9_stand (x1 : Int) (x2 : Int) (x3 : Int) (h : Hp) : Option (Int × Hp) :=
  i2lI x1 fun z1 =>
  cI (1) fun z2 =>
  cI (30) fun z3 =>
  cP (g_X9_in z1 z2 z3) fun z4 =>
  joinF (fun (a5 : Unit) =>
    cI (-2) fun z7 =>
    some (z7, h)) fun j6 =>
  if z4 = 0 then
    j6 ()
  else
    cP (g_X9_areSeeds x2) fun z8 =>
    if z8 = 0 then
      j6 ()
    else
      cP (g_X9_areMinutes x3) fun z9 =>
      if z9 = 0 then
        j6 ()
      else
        cI (-1) fun z10 =>
        cI (-1) fun z11 =>
        cI (0) fun z12 =>
        loopF (g_X9_stand_l14 x1 x2 x3) FU (z10, z11, z12, h)
def g_X9_common_l2  (l2 : Int × Int → Option (Int)) (q1 : Int × Int) : Option (Int) :=
      if q1.2 = 0 then
        some q1.1
      else
        remI q1.1 q1.2 fun z5 =>
        l2 (q1.2, z5)
def g_X9_common (x1 : Int) (x2 : Int) : Option (Int) :=
  loopF (g_X9_common_l2 ) FU (x1, x2)
def g_X9_outlasts_l40 (j28 : Hp → Option (Int × Hp)) (x4 : Int) (l40 : Int × Hp → Option (Int × Hp)) (q39 : Int × Hp) : Option (Int × Hp) :=
                      if x4 ≤ q39.1 then
                        j28 q39.2
                      else
                        cV (g_X9_minute 122 q39.2) fun h43 =>
                        addI q39.1 (1) fun z44 =>
                        l40 (z44, h43)
def g_X9_outlasts_l20 (j11 : Int × Hp → Option (Int × Hp)) (x1 : Int) (x2 : Int) (x3 : Int) (x4 : Int) (l20 : Int × Int × Hp → Option (Int × Hp)) (q19 : Int × Int × Hp) : Option (Int × Hp) :=
                if x3 < q19.2.1 then
                  j11 (q19.1, q19.2.2)
                else
                  cI (-1) fun z24 =>
                  cV (g_X9_beginTrial z24 q19.2.1 q19.2.2) fun h25 =>
                  cI (0) fun z26 =>
                  joinF (fun (a27 : Hp) =>
                    cP (g_X9_lastOf x1 x4 a27) fun z30 =>
                    cP (g_X9_lastOf x2 x4 a27) fun z31 =>
                    joinF (fun (a32 : Int) =>
                      addI q19.1 a32 fun z35 =>
                      addI q19.2.1 (1) fun z36 =>
                      l20 (z35, z36, a27)) fun j33 =>
                    if z30 ≤ z31 then
                      cI (0) fun z37 =>
                      j33 z37
                    else
                      cI (1) fun z38 =>
                      j33 z38) fun j28 =>
                  loopF (g_X9_outlasts_l40 j28 x4) FU (z26, h25)
def g_X9_outlasts (x1 : Int) (x2 : Int) (x3 : Int) (x4 : Int) (x5 : Int) (h : Hp) : Option (Int × Hp) :=
  cP (g_X9_isFlag x1 h) fun z1 =>
  joinF (fun (a2 : Unit) =>
    cI (-2) fun z4 =>
    some (z4, h)) fun j3 =>
  if z1 = 0 then
    j3 ()
  else
    cP (g_X9_isFlag x2 h) fun z5 =>
    if z5 = 0 then
      j3 ()
    else
      if x1 = x2 then
        j3 ()
      else
        cP (g_X9_areSeeds x3) fun z6 =>
        if z6 = 0 then
          j3 ()
        else
          cP (g_X9_areMinutes x4) fun z7 =>
          if z7 = 0 then
            j3 ()
          else
            cI (0) fun z8 =>
            cI (1) fun z9 =>
            joinF (fun (a10 : Int × Hp) =>
              joinF (fun (a14 : Int) =>
                cP (g_X9_common a10.1 x3) fun z17 =>
                divI a14 z17 fun z18 =>
                some (z18, a10.2)) fun j15 =>
              if x5 = 0 then
                j15 a10.1
              else
                j15 x3) fun j11 =>
            loopF (g_X9_outlasts_l20 j11 x1 x2 x3 x4) FU (z8, z9, h)
def g_X9_contest_l55 (j40 : Hp → Option (Int × Hp)) (x3 : Int) (l55 : Int × Hp → Option (Int × Hp)) (q54 : Int × Hp) : Option (Int × Hp) :=
                          if x3 ≤ q54.1 then
                            j40 q54.2
                          else
                            cV (g_X9_minute 122 q54.2) fun h58 =>
                            addI q54.1 (1) fun z59 =>
                            l55 (z59, h58)
def g_X9_contest_l33 (j24 : Int × Hp → Option (Int × Hp)) (q14 : Int × Int × Int × Hp) (x1 : Int) (x2 : Int) (x3 : Int) (l33 : Int × Int × Hp → Option (Int × Hp)) (q32 : Int × Int × Hp) : Option (Int × Hp) :=
                    if x2 < q32.2.1 then
                      j24 (q32.1, q32.2.2)
                    else
                      cV (g_X9_beginTrial q14.2.2.1 q32.2.1 q32.2.2) fun h37 =>
                      cI (0) fun z38 =>
                      joinF (fun (a39 : Hp) =>
                        joinF (fun (a42 : Int) =>
                          addI q32.1 a42 fun z45 =>
                          addI q32.2.1 (1) fun z46 =>
                          l33 (z45, z46, a39)) fun j43 =>
                        if x1 = 0 then
                          cI (0) fun z52 =>
                          cP (g_X9_lastOf z52 x3 a39) fun z53 =>
                          j43 z53
                        else
                          cI (0) fun z47 =>
                          cI (256) fun z48 =>
                          rdI a39 122 289 z48 fun z49 =>
                          addI z47 z49 fun z50 =>
                          rdI a39 122 289 z50 fun z51 =>
                          j43 z51) fun j40 =>
                      loopF (g_X9_contest_l55 j40 x3) FU (z38, h37)
def g_X9_contest_l15 (x1 : Int) (x2 : Int) (x3 : Int) (l15 : Int × Int × Int × Hp → Option (Int × Hp)) (q14 : Int × Int × Int × Hp) : Option (Int × Hp) :=
              gF q14.2.2.2 100 41 fun z20 =>
              if z20 ≤ q14.2.2.1 then
                some (q14.1, q14.2.2.2)
              else
                cI (0) fun z21 =>
                cI (1) fun z22 =>
                joinF (fun (a23 : Int × Hp) =>
                  joinF (fun (a27 : Int × Int) =>
                    addI q14.2.2.1 (1) fun z31 =>
                    l15 (a27.1, a27.2, z31, a23.2)) fun j28 =>
                  if q14.2.1 < a23.1 then
                    j28 (q14.2.2.1, a23.1)
                  else
                    j28 (q14.1, q14.2.1)) fun j24 =>
                loopF (g_X9_contest_l33 j24 q14 x1 x2 x3) FU (z21, z22, q14.2.2.2)
def g_X9_contest (x1 : Int) (x2 : Int) (x3 : Int) (h : Hp) : Option (Int × Hp) :=
  i2lI x1 fun z1 =>
  cI (0) fun z2 =>
  cI (1) fun z3 =>
  cP (g_X9_in z1 z2 z3) fun z4 =>
  joinF (fun (a5 : Unit) =>
    cI (-2) fun z7 =>
    some (z7, h)) fun j6 =>
  if z4 = 0 then
    j6 ()
  else
    cP (g_X9_areSeeds x2) fun z8 =>
    if z8 = 0 then
      j6 ()
    else
      cP (g_X9_areMinutes x3) fun z9 =>
      if z9 = 0 then
        j6 ()
      else
        gF h 100 12 fun z10 =>
        if z10 = 0 then
          cI (-4) fun z60 =>
          some (z60, h)
        else
          cI (-1) fun z11 =>
          cI (-1) fun z12 =>
          cI (0) fun z13 =>
          loopF (g_X9_contest_l15 x1 x2 x3) FU (z11, z12, z13, h)
def g_X9_which_l47 (h32 : Hp) (j36 : Int → Option (Int × Hp)) (z1 : Int) (l47 : Int × Int → Option (Int × Hp)) (q46 : Int × Int) : Option (Int × Hp) :=
                if z1 ≤ q46.2 then
                  j36 q46.1
                else
                  joinF (fun (a50 : Int) =>
                    addI q46.2 (1) fun z53 =>
                    l47 (a50, z53)) fun j51 =>
                  joinF (fun (a54 : Unit) =>
                    cI (0) fun z56 =>
                    j51 z56) fun j55 =>
                  if q46.1 = 0 then
                    j55 ()
                  else
                    cI (0) fun z57 =>
                    addI z57 q46.2 fun z58 =>
                    rdI h32 122 289 z58 fun z59 =>
                    rdI h32 101 900 q46.2 fun z60 =>
                    cI (32) fun z61 =>
                    subI z60 z61 fun z62 =>
                    if z59 = z62 then
                      cI (1) fun z63 =>
                      j51 z63
                    else
                      j55 ()
def g_X9_which_l13 (z1 : Int) (l13 : Int × Int × Hp → Option (Int × Hp)) (q12 : Int × Int × Hp) : Option (Int × Hp) :=
          gF q12.2.2 100 28 fun z17 =>
          if z17 ≤ q12.2.1 then
            some (q12.1, q12.2.2)
          else
            cI (-1) fun z18 =>
            cI (1) fun z19 =>
            cV (g_X9_beginTrial z18 z19 q12.2.2) fun h20 =>
            cI (3) fun z21 =>
            mulI z21 q12.2.1 fun z22 =>
            cI (1) fun z23 =>
            addI z22 z23 fun z24 =>
            rdI h20 110 36 z24 fun z25 =>
            cI (3) fun z26 =>
            mulI z26 q12.2.1 fun z27 =>
            cI (2) fun z28 =>
            addI z27 z28 fun z29 =>
            rdI h20 110 36 z29 fun z30 =>
            cV (g_X9_waveComes 122 z25 z30 h20) fun h31 =>
            cV (g_X9_slides 122 h31) fun h32 =>
            cI (1) fun z33 =>
            cI (0) fun z34 =>
            joinF (fun (a35 : Int) =>
              joinF (fun (a38 : Int) =>
                orI q12.1 a38 fun z41 =>
                addI q12.2.1 (1) fun z42 =>
                l13 (z41, z42, h32)) fun j39 =>
              if a35 = 0 then
                cI (0) fun z43 =>
                j39 z43
              else
                cI (1) fun z44 =>
                shlI z44 q12.2.1 fun z45 =>
                j39 z45) fun j36 =>
            loopF (g_X9_which_l47 h32 j36 z1) FU (z33, z34)
def g_X9_which_l65 (h3 : Hp) (j9 : Unit → Option (Int × Hp)) (z1 : Int) (l65 : Int → Option (Int × Hp)) (q64 : Int) : Option (Int × Hp) :=
        if z1 ≤ q64 then
          j9 ()
        else
          rdI h3 101 900 q64 fun z67 =>
          i2lI z67 fun z68 =>
          cI (32) fun z69 =>
          cI (126) fun z70 =>
          cP (g_X9_in z68 z69 z70) fun z71 =>
          if z71 = 0 then
            cI (-1) fun z73 =>
            some (z73, h3)
          else
            addI q64 (1) fun z72 =>
            l65 z72
def g_X9_which (h : Hp) : Option (Int × Hp) :=
  gF h 100 1 fun z1 =>
  cI (0) fun z2 =>
  pF h 100 1 z2 fun h3 =>
  gF h3 100 10 fun z4 =>
  gF h3 100 11 fun z5 =>
  mulI z4 z5 fun z6 =>
  if z1 = z6 then
    cI (0) fun z7 =>
    joinF (fun (a8 : Unit) =>
      cI (0) fun z10 =>
      cI (0) fun z11 =>
      loopF (g_X9_which_l13 z1) FU (z10, z11, h3)) fun j9 =>
    loopF (g_X9_which_l65 h3 j9 z1) FU z7
  else
    cI (-1) fun z74 =>
    some (z74, h3)
def g_X9_joinLeft (x1 : Int) (x2 : Int) : Option (Int) :=
  cI (0) fun z1 =>
  subI x1 x2 fun z2 =>
  maxI z1 z2 fun z3 =>
  some z3
def g_X9_join_l43 (a29 : Int) (j36 : Int × Int → Option (Int)) (x3 : Int) (x4 : Int) (x5 : Int) (l43 : Int × Int × Int → Option (Int)) (q42 : Int × Int × Int) : Option (Int) :=
                    cI (99) fun z47 =>
                    if z47 < q42.2.2 then
                      j36 (q42.1, q42.2.1)
                    else
                      mulI x3 q42.2.2 fun z48 =>
                      cP (g_X9_joinLeft a29 z48) fun z49 =>
                      mulI x4 q42.2.2 fun z50 =>
                      cP (g_X9_joinLeft a29 z50) fun z51 =>
                      addI z49 z51 fun z52 =>
                      addI x3 x4 fun z53 =>
                      mulI z53 x5 fun z54 =>
                      cI (100) fun z55 =>
                      mulI z55 z52 fun z56 =>
                      addI z56 z54 fun z57 =>
                      cI (1) fun z58 =>
                      subI z57 z58 fun z59 =>
                      divI z59 z54 fun z60 =>
                      addI q42.2.2 z60 fun z61 =>
                      cI (-1) fun z62 =>
                      joinF (fun (a63 : Int × Int) =>
                        addI q42.2.2 (1) fun z67 =>
                        l43 (a63.1, a63.2, z67)) fun j64 =>
                      joinF (fun (a68 : Unit) =>
                        j64 (q42.2.2, z61)) fun j69 =>
                      if q42.2.1 = z62 then
                        j69 ()
                      else
                        if z61 < q42.2.1 then
                          j69 ()
                        else
                          j64 (q42.1, q42.2.1)
def g_X9_join_l71 (j30 : Int → Option (Int)) (x2 : Int) (l71 : Int × Int → Option (Int)) (q70 : Int × Int) : Option (Int) :=
                  if q70.2 ≤ 0 then
                    j30 q70.1
                  else
                    cI (2) fun z74 =>
                    mulI z74 q70.2 fun z75 =>
                    addI q70.1 z75 fun z76 =>
                    subI q70.2 x2 fun z77 =>
                    l71 (z76, z77)
def g_X9_join (x1 : Int) (x2 : Int) (x3 : Int) (x4 : Int) (x5 : Int) (x6 : Int) : Option (Int) :=
  i2lI x1 fun z1 =>
  cI (1) fun z2 =>
  cI (99) fun z3 =>
  cP (g_X9_in z1 z2 z3) fun z4 =>
  joinF (fun (a5 : Unit) =>
    cI (-2) fun z7 =>
    some z7) fun j6 =>
  if z4 = 0 then
    j6 ()
  else
    i2lI x2 fun z8 =>
    cI (1) fun z9 =>
    cI (99) fun z10 =>
    cP (g_X9_in z8 z9 z10) fun z11 =>
    if z11 = 0 then
      j6 ()
    else
      i2lI x3 fun z12 =>
      cI (1) fun z13 =>
      cI (50) fun z14 =>
      cP (g_X9_in z12 z13 z14) fun z15 =>
      if z15 = 0 then
        j6 ()
      else
        i2lI x4 fun z16 =>
        cI (1) fun z17 =>
        cI (50) fun z18 =>
        cP (g_X9_in z16 z17 z18) fun z19 =>
        if z19 = 0 then
          j6 ()
        else
          i2lI x5 fun z20 =>
          cI (1) fun z21 =>
          cI (100) fun z22 =>
          cP (g_X9_in z20 z21 z22) fun z23 =>
          if z23 = 0 then
            j6 ()
          else
            i2lI x6 fun z24 =>
            cI (0) fun z25 =>
            cI (1) fun z26 =>
            cP (g_X9_in z24 z25 z26) fun z27 =>
            if z27 = 0 then
              j6 ()
            else
              subI x1 x2 fun z28 =>
              joinF (fun (a29 : Int) =>
                cI (0) fun z32 =>
                cI (-1) fun z33 =>
                cI (0) fun z34 =>
                joinF (fun (a35 : Int × Int) =>
                  joinF (fun (a39 : Int) =>
                    some a39) fun j40 =>
                  if x6 = 0 then
                    j40 a35.1
                  else
                    j40 a35.2) fun j36 =>
                loopF (g_X9_join_l43 a29 j36 x3 x4 x5) FU (z32, z33, z34)) fun j30 =>
              loopF (g_X9_join_l71 j30 x2) FU (x1, z28)
def g_X9_count (x1 : Int) (h : Hp) : Option (Int) :=
  if x1 = 0 then
    gF h 100 13 fun z2 =>
    some z2
  else
  if x1 = 1 then
    gF h 100 29 fun z4 =>
    some z4
  else
  if x1 = 2 then
    gF h 100 51 fun z6 =>
    some z6
  else
  if x1 = 3 then
    gF h 100 52 fun z8 =>
    some z8
  else
  if x1 = 4 then
    gF h 100 1 fun z10 =>
    some z10
  else
  cI (-1) fun z11 =>
  some z11
