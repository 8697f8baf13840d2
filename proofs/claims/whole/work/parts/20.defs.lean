def f_X0_init (n : Nat) (a0 : Nat) (h : zH) : Option (Unit × zH) :=
  znA h 21 24 fun r1 h2 =>
  zpQ h2 1 a0 0 r1 fun h3 =>
  znA h3 21 24 fun r4 h5 =>
  zpQ h5 1 a0 1 r4 fun h6 =>
  znA h6 21 24 fun r7 h8 =>
  zpQ h8 1 a0 2 r7 fun h9 =>
  znA h9 21 24 fun r10 h11 =>
  zpQ h11 1 a0 3 r10 fun h12 =>
  znA h12 21 24 fun r13 h14 =>
  zpQ h14 1 a0 4 r13 fun h15 =>
  znA h15 21 24 fun r16 h17 =>
  zpQ h17 1 a0 5 r16 fun h18 =>
  zpI h18 1 a0 6 (-1) fun h19 =>
  zpI h19 1 a0 7 0 fun h20 =>
  zpI h20 1 a0 8 0 fun h21 =>
  some ((), h21)
def f_X10_init (n : Nat) (a0 : Nat) (h : zH) : Option (Unit × zH) :=
  znO h 1 9 fun r1 h2 =>
  zb (f_X0_init n r1 h2) fun _ h4 =>
  zpQ h4 11 a0 0 r1 fun h5 =>
  znA h5 21 8 fun r6 h7 =>
  zpQ h7 11 a0 1 r6 fun h8 =>
  znA h8 21 8 fun r9 h10 =>
  zpQ h10 11 a0 2 r9 fun h11 =>
  zpI h11 11 a0 3 0 fun h12 =>
  zpI h12 11 a0 4 0 fun h13 =>
  zpI h13 11 a0 5 0 fun h14 =>
  zpZ h14 11 a0 6 0 fun h15 =>
  zpI h15 11 a0 7 0 fun h16 =>
  zpI h16 11 a0 8 0 fun h17 =>
  zpI h17 11 a0 9 0 fun h18 =>
  some ((), h18)
def f_X4_init (n : Nat) (a0 : Nat) (h : zH) : Option (Unit × zH) :=
  znA h 21 113 fun r1 h2 =>
  zpQ h2 5 a0 0 r1 fun h3 =>
  znA h3 22 64 fun r4 h5 =>
  zpQ h5 5 a0 1 r4 fun h6 =>
  zpL h6 5 a0 2 0 fun h7 =>
  some ((), h7)
def f_X6_init (n : Nat) (a0 : Nat) (a1 : Nat) (h : zH) : Option (Unit × zH) :=
  znA h 25 6 fun r1 h2 =>
  zpQ h2 7 a0 1 r1 fun h3 =>
  zpI h3 7 a0 2 0 fun h4 =>
  zpI h4 7 a0 3 (-1) fun h5 =>
  zpI h5 7 a0 4 1 fun h6 =>
  zpI h6 7 a0 5 0 fun h7 =>
  zpQ h7 7 a0 0 a1 fun h8 =>
  some ((), h8)
def f_X1_init (n : Nat) (a0 : Nat) (h : zH) : Option (Unit × zH) :=
  znA h 21 6 fun r1 h2 =>
  zpQ h2 2 a0 0 r1 fun h3 =>
  znA h3 21 6 fun r4 h5 =>
  zpQ h5 2 a0 1 r4 fun h6 =>
  zpI h6 2 a0 2 0 fun h7 =>
  some ((), h7)
def fb_X2_init_33 (n : Nat) (k33 : Nat → Int32 → zH → Option (Unit × zH)) (l0 : Nat) (l1 : Int32) (h : zH) : Option (Unit × zH) :=
  if 17 ≤ l1 then
    some ((), h)
  else
    zgR h 3 l0 0 fun v1 =>
    znO h 11 10 fun r2 h3 =>
    zb (f_X10_init n r2 h3) fun _ h5 =>
    zeQ h5 26 11 v1 l1 r2 fun h6 =>
    k33 l0 (l1 + 1) h6
def f_X2_init (n : Nat) (a0 : Nat) (h : zH) : Option (Unit × zH) :=
  znA h 26 17 fun r1 h2 =>
  zpQ h2 3 a0 0 r1 fun h3 =>
  znA h3 21 17 fun r4 h5 =>
  zpQ h5 3 a0 1 r4 fun h6 =>
  zpI h6 3 a0 2 0 fun h7 =>
  zpI h7 3 a0 3 0 fun h8 =>
  zlp2 (fb_X2_init_33 n ) n a0 0 h8
def f_X3_init (n : Nat) (a0 : Nat) (a1 : Nat) (h : zH) : Option (Unit × zH) :=
  znO h 11 10 fun r1 h2 =>
  zb (f_X10_init n r1 h2) fun _ h4 =>
  zpQ h4 4 a0 0 r1 fun h5 =>
  znO h5 2 3 fun r6 h7 =>
  zb (f_X1_init n r6 h7) fun _ h9 =>
  zpQ h9 4 a0 2 r6 fun h10 =>
  zpZ h10 4 a0 3 0 fun h11 =>
  znO h11 7 6 fun r12 h13 =>
  zb (f_X6_init n r12 a1 h13) fun _ h15 =>
  zpQ h15 4 a0 1 r12 fun h16 =>
  some ((), h16)
def f_X7_init (n : Nat) (a0 : Nat) (h : zH) : Option (Unit × zH) :=
  znA h 21 400 fun r1 h2 =>
  zpQ h2 8 a0 0 r1 fun h3 =>
  zpI h3 8 a0 1 0 fun h4 =>
  some ((), h4)
def f_J9_max_7cf53 (n : Nat) (a0 : Int32) (a1 : Int32) (h : zH) : Option (Int32 × zH) :=
  if a0 < a1 then
    some (a1, h)
  else
    some (a0, h)
def f_X8_init (n : Nat) (a0 : Nat) (a1 : Int32) (a2 : Int32) (h : zH) : Option (Unit × zH) :=
  zpI h 9 a0 3 0 fun h1 =>
  zpI h1 9 a0 4 0 fun h2 =>
  zb (f_J9_max_7cf53 n a1 0 h2) fun r3 h4 =>
  znA h4 21 r3 fun r5 h6 =>
  zpQ h6 9 a0 0 r5 fun h7 =>
  zb (f_J9_max_7cf53 n a1 0 h7) fun r8 h9 =>
  znA h9 21 r8 fun r10 h11 =>
  zpQ h11 9 a0 1 r10 fun h12 =>
  zb (f_J9_max_7cf53 n a2 0 h12) fun r13 h14 =>
  znA h14 21 ((5 : Int32) * r13) fun r15 h16 =>
  zpQ h16 9 a0 2 r15 fun h17 =>
  some ((), h17)
def f_X9_init (n : Nat) (a0 : Nat) (h : zH) : Option (Unit × zH) :=
  znA h 21 401 fun r1 h2 =>
  zpQ h2 10 a0 0 r1 fun h3 =>
  znA h3 21 401 fun r4 h5 =>
  zpQ h5 10 a0 1 r4 fun h6 =>
  znA h6 21 401 fun r7 h8 =>
  zpQ h8 10 a0 2 r7 fun h9 =>
  zpI h9 10 a0 3 0 fun h10 =>
  some ((), h10)
def f_X5_init (n : Nat) (a0 : Nat) (h : zH) : Option (Unit × zH) :=
  znO h 9 5 fun r1 h2 =>
  zb (f_X8_init n r1 400 12 h2) fun _ h4 =>
  zpQ h4 6 a0 0 r1 fun h5 =>
  znO h5 10 4 fun r6 h7 =>
  zb (f_X9_init n r6 h7) fun _ h9 =>
  zpQ h9 6 a0 1 r6 fun h10 =>
  zpI h10 6 a0 2 0 fun h11 =>
  zpI h11 6 a0 3 0 fun h12 =>
  zpI h12 6 a0 4 (-1) fun h13 =>
  some ((), h13)
def fb_J7_fill_53178_5 (n : Nat) (k5 : Nat → Int32 → Int32 → Int32 → zH → Option (Unit × zH)) (l0 : Nat) (l1 : Int32) (l2 : Int32) (l3 : Int32) (h : zH) : Option (Unit × zH) :=
  if l3 ≤ l2 then
    some ((), h)
  else
    zeI h l0 l2 l1 fun h1 =>
    k5 l0 l1 (l2 + 1) l3 h1
def f_J7_fill_53178 (n : Nat) (a0 : Nat) (a1 : Int32) (h : zH) : Option (Unit × zH) :=
  zln' h 21 a0 fun v1 =>
  zlp4 (fb_J7_fill_53178_5 n ) n a0 a1 0 v1 h
def f_X11_init (n : Nat) (a0 : Nat) (h : zH) : Option (Unit × zH) :=
  znO h 11 10 fun r1 h2 =>
  zb (f_X10_init n r1 h2) fun _ h4 =>
  zpQ h4 12 a0 0 r1 fun h5 =>
  znO h5 11 10 fun r6 h7 =>
  zb (f_X10_init n r6 h7) fun _ h9 =>
  zpQ h9 12 a0 1 r6 fun h10 =>
  znO h10 5 3 fun r11 h12 =>
  zb (f_X4_init n r11 h12) fun _ h14 =>
  zpQ h14 12 a0 2 r11 fun h15 =>
  znO h15 7 6 fun r16 h17 =>
  zgR h17 12 a0 2 fun v18 =>
  zb (f_X6_init n r16 v18 h17) fun _ h20 =>
  zpQ h20 12 a0 3 r16 fun h21 =>
  znO h21 2 3 fun r22 h23 =>
  zb (f_X1_init n r22 h23) fun _ h25 =>
  zpQ h25 12 a0 4 r22 fun h26 =>
  znO h26 3 4 fun r27 h28 =>
  zb (f_X2_init n r27 h28) fun _ h30 =>
  zpQ h30 12 a0 5 r27 fun h31 =>
  znO h31 3 4 fun r32 h33 =>
  zb (f_X2_init n r32 h33) fun _ h35 =>
  zpQ h35 12 a0 6 r32 fun h36 =>
  znO h36 4 4 fun r37 h38 =>
  zgR h38 12 a0 2 fun v39 =>
  zb (f_X3_init n r37 v39 h38) fun _ h41 =>
  zpQ h41 12 a0 7 r37 fun h42 =>
  znO h42 4 4 fun r43 h44 =>
  zgR h44 12 a0 2 fun v45 =>
  zb (f_X3_init n r43 v45 h44) fun _ h47 =>
  zpQ h47 12 a0 8 r43 fun h48 =>
  znO h48 8 2 fun r49 h50 =>
  zb (f_X7_init n r49 h50) fun _ h52 =>
  zpQ h52 12 a0 9 r49 fun h53 =>
  znO h53 6 5 fun r54 h55 =>
  zb (f_X5_init n r54 h55) fun _ h57 =>
  zpQ h57 12 a0 10 r54 fun h58 =>
  znA h58 21 5 fun r59 h60 =>
  zpQ h60 12 a0 11 r59 fun h61 =>
  znA h61 21 24 fun r62 h63 =>
  zpQ h63 12 a0 12 r62 fun h64 =>
  znA h64 22 20 fun r65 h66 =>
  zpQ h66 12 a0 13 r65 fun h67 =>
  zpI h67 12 a0 14 0 fun h68 =>
  zpI h68 12 a0 15 (-1) fun h69 =>
  zpI h69 12 a0 16 (-1) fun h70 =>
  zpI h70 12 a0 17 0 fun h71 =>
  zpI h71 12 a0 18 (-1) fun h72 =>
  zpI h72 12 a0 19 0 fun h73 =>
  zgR h73 12 a0 12 fun v74 =>
  zb (f_J7_fill_53178 n v74 (-1) h73) fun _ h76 =>
  some ((), h76)
def f_X11_isProcessor (n : Nat) (a0 : Int32) (h : zH) : Option (Int32 × zH) :=
  if a0 < 0 then
    some (0, h)
  else
    if 8 ≤ a0 then
      some (0, h)
    else
      some (1, h)
def f_X10_unreported (n : Nat) (a0 : Nat) (h : zH) : Option (Int32 × zH) :=
  zgI h 11 a0 6 fun v1 =>
  if v1 = 0 then
    some (0, h)
  else
    zgR h 11 a0 2 fun v2 =>
    zaI h 21 v2 4 fun v3 =>
    zgR h 11 a0 2 fun v4 =>
    zaI h 21 v4 5 fun v5 =>
    zgR h 11 a0 2 fun v6 =>
    zaI h 21 v6 6 fun v7 =>
    zgR h 11 a0 2 fun v8 =>
    zaI h 21 v8 7 fun v9 =>
    some (((v3 ||| (v5 <<< (2 &&& 31))) ||| (v7 <<< (4 &&& 31))) ||| (v9 <<< (6 &&& 31)), h)
def f_X11_bitOf (n : Nat) (a0 : Int32) (a1 : Int32) (h : zH) : Option (Int32 × zH) :=
  if a0 &&& a1 = 0 then
    some (0, h)
  else
    some (1, h)
def fb_X10_cellOf_23 (n : Nat) (l0 : Nat) (l1 : Int32) (s0 : Int32) (h : zH) : Option (Int32 × zH) :=
  if s0 = 0 then
    some ((-1), h)
  else
    zgR h 11 l0 1 fun v1 =>
    zaI h 21 v1 l1 fun v2 =>
    some (v2, h)
def fb_X10_cellOf_22 (n : Nat) (l0 : Nat) (l1 : Int32) (h : zH) : Option (Int32 × zH) :=
  fb_X10_cellOf_23 n l0 l1 0 h
def f_X10_cellOf (n : Nat) (a0 : Nat) (a1 : Int32) (h : zH) : Option (Int32 × zH) :=
  zb (f_X11_isProcessor n a1 h) fun r1 h2 =>
  if r1 = 0 then
    fb_X10_cellOf_22 n a0 a1 h2
  else
    zgI h2 11 a0 3 fun v3 =>
    if v3 &&& ((1 : Int32) <<< (a1 &&& 31)) = 0 then
      fb_X10_cellOf_22 n a0 a1 h2
    else
      fb_X10_cellOf_23 n a0 a1 1 h2
def f_X11_of (n : Nat) (a0 : Nat) (a1 : Int32) (a2 : Int32) (h : zH) : Option (Int32 × zH) :=
  zb (f_X11_isProcessor n a1 h) fun r1 h2 =>
  if r1 = 0 then
    some ((-1), h2)
  else
    zlt ((1 : Int32) <<< (a1 &&& 31)) fun x3 =>
    zswl a2 [
      (0, 48,
        zgR h2 12 a0 0 fun v4 =>
        zgI h2 11 v4 3 fun v5 =>
        zb (f_X11_bitOf n v5 x3 h2) fun r6 h7 =>
        some (r6, h7)),
      (1, 60,
        zgR h2 12 a0 0 fun v8 =>
        zck h2 11 v8 (zb (f_X10_cellOf n v8 a1 h2) fun r9 h10 =>
        some (r9, h10))),
      (2, 69,
        zgR h2 12 a0 0 fun v11 =>
        zgI h2 11 v11 4 fun v12 =>
        zb (f_X11_bitOf n v12 x3 h2) fun r13 h14 =>
        some (r13, h14)),
      (3, 81,
        zgR h2 12 a0 0 fun v15 =>
        zgI h2 11 v15 5 fun v16 =>
        zb (f_X11_bitOf n v16 x3 h2) fun r17 h18 =>
        some (r17, h18)),
      (4, 93,
        zgR h2 12 a0 0 fun v19 =>
        zck h2 11 v19 (zb (f_X10_unreported n v19 h2) fun r20 h21 =>
        zb (f_X11_bitOf n r20 x3 h21) fun r22 h23 =>
        some ((1 : Int32) - r22, h23)))] (
        some ((-1), h2))
def f_X11_isCell (n : Nat) (a0 : Int32) (h : zH) : Option (Int32 × zH) :=
  if a0 < 0 then
    some (0, h)
  else
    if 24 ≤ a0 then
      some (0, h)
    else
      some (1, h)
def f_X11_cell (n : Nat) (a0 : Nat) (a1 : Int32) (a2 : Int32) (h : zH) : Option (Int32 × zH) :=
  zb (f_X11_isCell n a1 h) fun r1 h2 =>
  if r1 = 0 then
    some ((-1), h2)
  else
    zgR h2 12 a0 0 fun v3 =>
    zgR h2 11 v3 0 fun v4 =>
    if a2 = 0 then
      zgR h2 1 v4 0 fun v13 =>
      zaI h2 21 v13 a1 fun v14 =>
      some (v14, h2)
    else
      zgR h2 1 v4 0 fun v5 =>
      zaI h2 21 v5 a1 fun v6 =>
      if v6 = 0 then
        some ((-1), h2)
      else
        zswl a2 [
          (1, 68,
            zgR h2 1 v4 1 fun v7 =>
            zaI h2 21 v7 a1 fun v8 =>
            some (v8, h2)),
          (2, 75,
            zgR h2 1 v4 2 fun v9 =>
            zaI h2 21 v9 a1 fun v10 =>
            some (v10, h2)),
          (3, 82,
            zgR h2 1 v4 3 fun v11 =>
            zaI h2 21 v11 a1 fun v12 =>
            some (v12, h2))] (
            some ((-1), h2))
def fb_X0_along_38 (n : Nat) (l2 : Int32) (l3 : Int32) (h : zH) : Option (Int32 × zH) :=
  if l2 < 0 then
    some ((-1), h)
  else
    if 24 ≤ l2 then
      some ((-1), h)
    else
      zb (f_X11_isCell n l3 h) fun r1 h2 =>
      if r1 = 0 then
        some ((-1), h2)
      else
        some (l3, h2)
def fb_X0_along_5 (n : Nat) (k5 : Nat → Int32 → Int32 → Int32 → zH → Option (Int32 × zH)) (l0 : Nat) (l2 : Int32) (l3 : Int32) (l4 : Int32) (h : zH) : Option (Int32 × zH) :=
  if l2 ≤ l4 then
    fb_X0_along_38 n l2 l3 h
  else
    if 24 ≤ l4 then
      fb_X0_along_38 n l2 l3 h
    else
      zb (f_X11_isCell n l3 h) fun r1 h2 =>
      if r1 = 0 then
        fb_X0_along_38 n l2 l3 h2
      else
        zgR h2 1 l0 3 fun v3 =>
        zaI h2 21 v3 l3 fun v4 =>
        k5 l0 l2 v4 (l4 + 1) h2
def f_X0_along (n : Nat) (a0 : Nat) (a1 : Int32) (a2 : Int32) (h : zH) : Option (Int32 × zH) :=
  zlp4 (fb_X0_along_5 n ) n a0 a2 a1 0 h
def f_X11_list (n : Nat) (a0 : Nat) (a1 : Int32) (h : zH) : Option (Int32 × zH) :=
  zgR h 12 a0 0 fun v1 =>
  zgR h 11 v1 0 fun v2 =>
  zgR h 12 a0 0 fun v3 =>
  zgR h 11 v3 0 fun v4 =>
  zgI h 1 v4 6 fun v5 =>
  zck h 1 v2 (zb (f_X0_along n v2 v5 a1 h) fun r6 h7 =>
  some (r6, h7))
def fb_X0_lastBelow_10 (n : Nat) (k10 : Nat → Int32 → Int32 → Int32 → Int32 → zH → Option (Int32 × zH)) (l0 : Nat) (l1 : Int32) (l2 : Int32) (l3 : Int32) (l4 : Int32) (h : zH) : Option (Int32 × zH) :=
  if 24 ≤ l4 then
    some (l2, h)
  else
    zb (f_X11_isCell n l3 h) fun r1 h2 =>
    if r1 = 0 then
      some (l2, h2)
    else
      zgR h2 1 l0 1 fun v3 =>
      zaI h2 21 v3 l3 fun v4 =>
      if l1 ≤ v4 then
        some (l2, h2)
      else
        zgR h2 1 l0 3 fun v5 =>
        zaI h2 21 v5 l3 fun v6 =>
        k10 l0 l1 l3 v6 (l4 + 1) h2
def f_X0_lastBelow (n : Nat) (a0 : Nat) (a1 : Int32) (h : zH) : Option (Int32 × zH) :=
  zgI h 1 a0 6 fun v1 =>
  zlp5 (fb_X0_lastBelow_10 n ) n a0 a1 (-1) v1 0 h
def f_X0_follower (n : Nat) (a0 : Nat) (a1 : Int32) (h : zH) : Option (Int32 × zH) :=
  zb (f_X11_isCell n a1 h) fun r1 h2 =>
  if r1 = 0 then
    zgI h2 1 a0 6 fun v3 =>
    some (v3, h2)
  else
    zgR h2 1 a0 3 fun v4 =>
    zaI h2 21 v4 a1 fun v5 =>
    some (v5, h2)
def f_X0_holding (n : Nat) (a0 : Nat) (a1 : Int32) (h : zH) : Option (Int32 × zH) :=
  zck h 1 a0 (zb (f_X0_lastBelow n a0 a1 h) fun r1 h2 =>
  zck h2 1 a0 (zb (f_X0_follower n a0 r1 h2) fun r3 h4 =>
  zb (f_X11_isCell n r3 h4) fun r5 h6 =>
  if r5 = 0 then
    some ((-1), h6)
  else
    zgR h6 1 a0 1 fun v7 =>
    zaI h6 21 v7 r3 fun v8 =>
    if v8 = a1 then
      some (r3, h6)
    else
      some ((-1), h6)))
def f_X11_find (n : Nat) (a0 : Nat) (a1 : Int32) (h : zH) : Option (Int32 × zH) :=
  zgR h 12 a0 0 fun v1 =>
  zgR h 11 v1 0 fun v2 =>
  zck h 1 v2 (zb (f_X0_holding n v2 a1 h) fun r3 h4 =>
  zb (f_X11_isCell n r3 h4) fun r5 h6 =>
  if r5 = 0 then
    some ((-1), h6)
  else
    zgR h6 12 a0 0 fun v7 =>
    zgR h6 11 v7 0 fun v8 =>
    zgR h6 1 v8 2 fun v9 =>
    zaI h6 21 v9 r3 fun v10 =>
    some (v10, h6))
def f_X11_isNode (n : Nat) (a0 : Int32) (h : zH) : Option (Int32 × zH) :=
  if a0 < 1 then
    some (0, h)
  else
    if 8 ≤ a0 then
      some (0, h)
    else
      some (1, h)
def f_X11_node (n : Nat) (a0 : Nat) (a1 : Int32) (h : zH) : Option (Int32 × zH) :=
  zb (f_X11_isNode n a1 h) fun r1 h2 =>
  if r1 = 0 then
    some ((-1), h2)
  else
    zgR h2 12 a0 0 fun v3 =>
    zgI h2 11 v3 6 fun v4 =>
    if v4 = 0 then
      some (0, h2)
    else
      zgR h2 12 a0 0 fun v5 =>
      zgR h2 11 v5 2 fun v6 =>
      zaI h2 21 v6 a1 fun v7 =>
      some (v7, h2)
def fb_X11_old_37 (n : Nat) (l1 : Int32) (l2 : Int32) (l3 : Nat) (h : zH) : Option (Int32 × zH) :=
  if l1 = 1 then
    if l2 < 0 then
      some ((-1), h)
    else
      zgI h 1 l3 8 fun v1 =>
      if v1 ≤ l2 then
        some ((-1), h)
      else
        if 24 ≤ l2 then
          some ((-1), h)
        else
          zgR h 1 l3 5 fun v2 =>
          zaI h 21 v2 l2 fun v3 =>
          some (v3, h)
  else
    some ((-1), h)
def f_X11_old (n : Nat) (a0 : Nat) (a1 : Int32) (a2 : Int32) (h : zH) : Option (Int32 × zH) :=
  zgR h 12 a0 0 fun v1 =>
  zgR h 11 v1 0 fun v2 =>
  if a1 = 0 then
    if a2 < 0 then
      fb_X11_old_37 n a1 a2 v2 h
    else
      zgI h 1 v2 7 fun v3 =>
      if v3 ≤ a2 then
        fb_X11_old_37 n a1 a2 v2 h
      else
        if 24 ≤ a2 then
          fb_X11_old_37 n a1 a2 v2 h
        else
          zgR h 1 v2 4 fun v4 =>
          zaI h 21 v4 a2 fun v5 =>
          some (v5, h)
  else
    fb_X11_old_37 n a1 a2 v2 h
def f_X11_mostOfTerm (n : Nat) (a0 : Int32) (h : zH) : Option (Int32 × zH) :=
  zswl a0 [
    (0, 28,
      some (999, h)),
    (1, 32,
      some (10, h)),
    (2, 35,
      some (9, h))] (
      some ((-1), h))
def f_X11_termNow (n : Nat) (a0 : Nat) (a1 : Int32) (h : zH) : Option (Int32 × zH) :=
  zswl a1 [
    (0, 28,
      zgR h 12 a0 0 fun v1 =>
      zgI h 11 v1 9 fun v2 =>
      some (v2, h)),
    (1, 36,
      zgR h 12 a0 3 fun v3 =>
      zgI h 7 v3 4 fun v4 =>
      some (v4, h)),
    (2, 44,
      zgR h 12 a0 3 fun v5 =>
      zgI h 7 v5 5 fun v6 =>
      some (v6, h))] (
      some ((-1), h))
def f_X2_clear (n : Nat) (a0 : Nat) (h : zH) : Option (Unit × zH) :=
  zpI h 3 a0 3 0 fun h1 =>
  some ((), h1)
def f_J9_min_7cf53 (n : Nat) (a0 : Int32) (a1 : Int32) (h : zH) : Option (Int32 × zH) :=
  if a1 < a0 then
    some (a1, h)
  else
    some (a0, h)
def fb_X11_told_25 (n : Nat) (l0 : Nat) (l1 : Int32) (s0 : Int32) (h : zH) : Option (Int32 × zH) :=
  if 0 ≤ l1 then
    some (l1, h)
  else
    if s0 < 0 then
      some (l1, h)
    else
      zgR h 12 l0 11 fun v1 =>
      zln' h 21 v1 fun v2 =>
      if v2 ≤ s0 then
        some (l1, h)
      else
        zgR h 12 l0 11 fun v3 =>
        zaI h 21 v3 s0 fun v4 =>
        zeI h v3 s0 (v4 + 1) fun h5 =>
        some (l1, h5)
def f_X11_told (n : Nat) (a0 : Nat) (a1 : Int32) (h : zH) : Option (Int32 × zH) :=
  zb (f_J9_min_7cf53 n a1 0 h) fun r1 h2 =>
  zpI h2 12 a0 19 r1 fun h3 =>
  if a1 < (-3) then
    fb_X11_told_25 n a0 a1 (((-2) : Int32) - a1) h3
  else
    fb_X11_told_25 n a0 a1 (((-1) : Int32) - a1) h3
def fb_X11_terms_14 (n : Nat) (l0 : Nat) (h : zH) : Option (Int32 × zH) :=
  zck h 12 l0 (zb (f_X11_told n l0 (-1) h) fun r1 h2 =>
  some (r1, h2))
def fb_X11_terms_66 (n : Nat) (l0 : Nat) (l4 : Int32) (h : zH) : Option (Int32 × zH) :=
  zgR h 12 l0 5 fun v1 =>
  zck h 3 v1 (zb (f_X2_clear n v1 h) fun _ h3 =>
  zck h3 12 l0 (zb (f_X11_told n l0 l4 h3) fun r4 h5 =>
  some (r4, h5)))
def f_X11_terms (n : Nat) (a0 : Nat) (a1 : Int32) (a2 : Int32) (h : zH) : Option (Int32 × zH) :=
  zb (f_X11_mostOfTerm n a1 h) fun r1 h2 =>
  if a2 < 0 then
    fb_X11_terms_14 n a0 h2
  else
    if a2 ≤ r1 then
      zck h2 12 a0 (zb (f_X11_termNow n a0 a1 h2) fun r3 h4 =>
      if a1 = 0 then
        zgR h4 12 a0 0 fun v9 =>
        zpI h4 11 v9 9 a2 fun h10 =>
        fb_X11_terms_66 n a0 r3 h10
      else
        if a1 = 1 then
          zgR h4 12 a0 3 fun v7 =>
          zpI h4 7 v7 4 a2 fun h8 =>
          fb_X11_terms_66 n a0 r3 h8
        else
          zgR h4 12 a0 3 fun v5 =>
          zpI h4 7 v5 5 a2 fun h6 =>
          fb_X11_terms_66 n a0 r3 h6)
    else
      fb_X11_terms_14 n a0 h2
def fb_X7_addFour_3 (n : Nat) (k3 : Nat → Int32 → Int32 → zH → Option (Unit × zH)) (l0 : Nat) (l1 : Int32) (l2 : Int32) (h : zH) : Option (Unit × zH) :=
  if l2 < 0 then
    some ((), h)
  else
    zgI h 8 l0 1 fun v1 =>
    if 400 ≤ v1 then
      some ((), h)
    else
      zgR h 8 l0 0 fun v2 =>
      zgI h 8 l0 1 fun v3 =>
      zeI h v2 v3 (((Int32.toUInt32 l1 >>> (Int32.toUInt32 l2 &&& Int32.toUInt32 31)).toInt32) &&& 255) fun h4 =>
      zgI h4 8 l0 1 fun v5 =>
      zpI h4 8 l0 1 (v5 + 1) fun h6 =>
      k3 l0 l1 (l2 + (-8)) h6
def f_X7_addFour (n : Nat) (a0 : Nat) (a1 : Int32) (h : zH) : Option (Unit × zH) :=
  zlp3 (fb_X7_addFour_3 n ) n a0 a1 24 h
def f_X11_feed (n : Nat) (a0 : Nat) (a1 : Int32) (a2 : Int32) (a3 : Int32) (a4 : Int32) (a5 : Int32) (h : zH) : Option (Int32 × zH) :=
  zgR h 12 a0 9 fun v1 =>
  zgI h 8 v1 1 fun v2 =>
  if v2 + 20 ≤ 400 then
    zgR h 12 a0 9 fun v3 =>
    zck h 8 v3 (zb (f_X7_addFour n v3 a1 h) fun _ h5 =>
    zgR h5 12 a0 9 fun v6 =>
    zck h5 8 v6 (zb (f_X7_addFour n v6 a2 h5) fun _ h8 =>
    zgR h8 12 a0 9 fun v9 =>
    zck h8 8 v9 (zb (f_X7_addFour n v9 a3 h8) fun _ h11 =>
    zgR h11 12 a0 9 fun v12 =>
    zck h11 8 v12 (zb (f_X7_addFour n v12 a4 h11) fun _ h14 =>
    zgR h14 12 a0 9 fun v15 =>
    zck h14 8 v15 (zb (f_X7_addFour n v15 a5 h14) fun _ h17 =>
    zgR h17 12 a0 9 fun v18 =>
    zgI h17 8 v18 1 fun v19 =>
    some (v19, h17))))))
  else
    some ((-1), h)
def f_X11_end (n : Nat) (a0 : Nat) (a1 : Int32) (h : zH) : Option (Int32 × zH) :=
  if a1 < 0 then
    some ((-1), h)
  else
    zgR h 12 a0 9 fun v1 =>
    zgI h 8 v1 1 fun v2 =>
    if a1 ≤ v2 then
      zgR h 12 a0 9 fun v3 =>
      zpI h 8 v3 1 a1 fun h4 =>
      some (a1, h4)
    else
      some ((-1), h)
def f_X6_lawAt (n : Nat) (a0 : Nat) (a1 : Int32) (h : zH) : Option (Nat × zH) :=
  if a1 < 0 then
    some (0, h)
  else
    zgI h 7 a0 2 fun v1 =>
    if v1 ≤ a1 then
      some (0, h)
    else
      if 6 ≤ a1 then
        some (0, h)
      else
        zgR h 7 a0 1 fun v2 =>
        zaR h 25 v2 a1 fun v3 =>
        some (v3, h)
def f_X6_tellWhere (n : Nat) (a0 : Nat) (a1 : Int32) (a2 : Int32) (a3 : Int32) (a4 : Int32) (h : zH) : Option (Unit × zH) :=
  zgR h 7 a0 0 fun v1 =>
  zgR h 5 v1 0 fun v2 =>
  zeI h v2 0 a1 fun h3 =>
  zgR h3 7 a0 0 fun v4 =>
  zgR h3 5 v4 0 fun v5 =>
  zeI h3 v5 1 a2 fun h6 =>
  zgR h6 7 a0 0 fun v7 =>
  zgR h6 5 v7 0 fun v8 =>
  zeI h6 v8 2 a3 fun h9 =>
  zgR h9 7 a0 0 fun v10 =>
  zgR h9 5 v10 0 fun v11 =>
  zeI h9 v11 3 a4 fun h12 =>
  some ((), h12)
def f_X6_tellWhat (n : Nat) (a0 : Nat) (a1 : Int32) (a2 : Int32) (h : zH) : Option (Unit × zH) :=
  zgR h 7 a0 0 fun v1 =>
  zgR h 5 v1 0 fun v2 =>
  zeI h v2 4 a1 fun h3 =>
  zgR h3 7 a0 0 fun v4 =>
  zgR h3 5 v4 0 fun v5 =>
  zeI h3 v5 5 a2 fun h6 =>
  zgR h6 7 a0 0 fun v7 =>
  zgR h6 5 v7 0 fun v8 =>
  zgI h6 7 a0 5 fun v9 =>
  zeI h6 v8 6 v9 fun h10 =>
  some ((), h10)
def f_X8_entry (n : Nat) (a0 : Nat) (a1 : Int32) (a2 : Int32) (h : zH) : Option (Int32 × zH) :=
  zlt (((5 : Int32) * a1) + a2) fun x1 =>
  if x1 < 0 then
    some ((-1), h)
  else
    zgR h 9 a0 2 fun v2 =>
    zln' h 21 v2 fun v3 =>
    if v3 ≤ x1 then
      some ((-1), h)
    else
      zgR h 9 a0 2 fun v4 =>
      zaI h 21 v4 x1 fun v5 =>
      some (v5, h)
def fb_X4_isBroken_276 (n : Nat) (l0 : Nat) (h : zH) : Option (Int32 × zH) :=
  zgL h 5 l0 2 fun v1 =>
  if 0 < lg_cmp v1 1000000000 then
    some (1, h)
  else
    zgL h 5 l0 2 fun v2 =>
    if 0 ≤ lg_cmp v2 (-1000000000) then
      some (0, h)
    else
      some (1, h)
def fb_X4_isBroken_211 (n : Nat) (l0 : Nat) (s0 : Nat) (s1 : Int64) (h : zH) : Option (Int32 × zH) :=
  zpL h 5 s0 2 s1 fun h1 =>
  fb_X4_isBroken_276 n l0 h1
def fb_X4_isBroken_189 (n : Nat) (l0 : Nat) (s0 : Nat) (s1 : Int64) (h : zH) : Option (Int32 × zH) :=
  zpL h 5 s0 2 s1 fun h1 =>
  fb_X4_isBroken_276 n l0 h1
def fb_X4_isBroken_230 (n : Nat) (l0 : Nat) (s0 : Nat) (s1 : Int64) (h : zH) : Option (Int32 × zH) :=
  zpL h 5 s0 2 s1 fun h1 =>
  fb_X4_isBroken_276 n l0 h1
def fb_X4_isBroken_268 (n : Nat) (l0 : Nat) (s0 : Nat) (s1 : Int64) (h : zH) : Option (Int32 × zH) :=
  zpL h 5 s0 2 s1 fun h1 =>
  fb_X4_isBroken_276 n l0 h1
def fb_X4_isBroken_249 (n : Nat) (l0 : Nat) (s0 : Nat) (s1 : Int64) (h : zH) : Option (Int32 × zH) :=
  zpL h 5 s0 2 s1 fun h1 =>
  fb_X4_isBroken_276 n l0 h1
def fb_X4_isBroken_21 (n : Nat) (l0 : Nat) (l1 : Int32) (l2 : Int64) (l4 : Int64) (h : zH) : Option (Int32 × zH) :=
  zswl l1 [
    (37, 195,
      if lg_cmp l4 0 = 0 then
        fb_X4_isBroken_211 n l0 l0 0 h
      else
        if l4 = 0 then none else
        fb_X4_isBroken_211 n l0 l0 (l2 - l2 / l4 * l4) h),
    (38, 274,
      some (1, h)),
    (39, 274,
      some (1, h)),
    (40, 274,
      some (1, h)),
    (41, 274,
      some (1, h)),
    (42, 162,
      zpL h 5 l0 2 (l2 * l4) fun h1 =>
      fb_X4_isBroken_276 n l0 h1),
    (43, 140,
      zpL h 5 l0 2 (l2 + l4) fun h2 =>
      fb_X4_isBroken_276 n l0 h2),
    (44, 274,
      some (1, h)),
    (45, 151,
      zpL h 5 l0 2 (l2 - l4) fun h3 =>
      fb_X4_isBroken_276 n l0 h3),
    (46, 274,
      some (1, h)),
    (47, 173,
      if lg_cmp l4 0 = 0 then
        fb_X4_isBroken_189 n l0 l0 0 h
      else
        if l4 = 0 then none else
        fb_X4_isBroken_189 n l0 l0 (l2 / l4) h),
    (48, 274,
      some (1, h)),
    (49, 274,
      some (1, h)),
    (50, 274,
      some (1, h)),
    (51, 274,
      some (1, h)),
    (52, 274,
      some (1, h)),
    (53, 274,
      some (1, h)),
    (54, 274,
      some (1, h)),
    (55, 274,
      some (1, h)),
    (56, 274,
      some (1, h)),
    (57, 274,
      some (1, h)),
    (58, 274,
      some (1, h)),
    (59, 274,
      some (1, h)),
    (60, 217,
      if 0 ≤ lg_cmp l2 l4 then
        fb_X4_isBroken_230 n l0 l0 0 h
      else
        fb_X4_isBroken_230 n l0 l0 1 h),
    (61, 255,
      if lg_cmp l2 l4 = 0 then
        fb_X4_isBroken_268 n l0 l0 1 h
      else
        fb_X4_isBroken_268 n l0 l0 0 h),
    (62, 236,
      if lg_cmp l2 l4 ≤ 0 then
        fb_X4_isBroken_249 n l0 l0 0 h
      else
        fb_X4_isBroken_249 n l0 l0 1 h)] (
      some (1, h))
def fb_X4_isBroken_12 (n : Nat) (l0 : Nat) (l1 : Int32) (l2 : Int64) (l4 : Int64) (h : zH) : Option (Int32 × zH) :=
  if lg_cmp l4 0 = 0 then
    some (1, h)
  else
    fb_X4_isBroken_21 n l0 l1 l2 l4 h
def f_X4_isBroken (n : Nat) (a0 : Nat) (a1 : Int32) (a2 : Int64) (a3 : Int64) (h : zH) : Option (Int32 × zH) :=
  if a1 = 47 then
    fb_X4_isBroken_12 n a0 a1 a2 a3 h
  else
    if a1 = 37 then
      fb_X4_isBroken_12 n a0 a1 a2 a3 h
    else
      fb_X4_isBroken_21 n a0 a1 a2 a3 h
def fb_X4_runs_329 (n : Nat) (k20 : Nat → Nat → Int32 → Int32 → Int32 → zH → Option (Int32 × zH)) (l0 : Nat) (l1 : Nat) (l3 : Int32) (l4 : Int32) (l5 : Int32) (h : zH) : Option (Int32 × zH) :=
  k20 l0 l1 l3 l4 (l5 + 1) h
def fb_X4_runs_134 (n : Nat) (k20 : Nat → Nat → Int32 → Int32 → Int32 → zH → Option (Int32 × zH)) (l0 : Nat) (l1 : Nat) (l3 : Int32) (l4 : Int32) (l5 : Int32) (s0 : Nat) (s1 : Int32) (s2 : Int64) (h : zH) : Option (Int32 × zH) :=
  zeL h s0 s1 s2 fun h1 =>
  fb_X4_runs_329 n k20 l0 l1 (l3 + 1) l4 l5 h1
def fb_X4_runs_110 (n : Nat) (k20 : Nat → Nat → Int32 → Int32 → Int32 → zH → Option (Int32 × zH)) (l0 : Nat) (l1 : Nat) (l3 : Int32) (l4 : Int32) (l5 : Int32) (l6 : Int32) (l7 : Int32) (h : zH) : Option (Int32 × zH) :=
  zgR h 5 l0 1 fun v1 =>
  if l6 = 0 then
    fb_X4_runs_134 n k20 l0 l1 l3 l4 l5 v1 l3 (Int32.toInt64 l7) h
  else
    zgR h 5 l0 0 fun v2 =>
    zaI h 21 v2 l7 fun v3 =>
    fb_X4_runs_134 n k20 l0 l1 l3 l4 l5 v1 l3 (Int32.toInt64 v3) h
def fb_X4_runs_77 (n : Nat) (k20 : Nat → Nat → Int32 → Int32 → Int32 → zH → Option (Int32 × zH)) (l0 : Nat) (l1 : Nat) (l3 : Int32) (l4 : Int32) (l5 : Int32) (l6 : Int32) (l7 : Int32) (h : zH) : Option (Int32 × zH) :=
  if l3 < 0 then
    some (0, h)
  else
    if 64 ≤ l3 then
      some (0, h)
    else
      if l7 < 0 then
        some (0, h)
      else
        if l6 = 1 then
          zgR h 5 l0 0 fun v1 =>
          zln' h 21 v1 fun v2 =>
          if l7 < v2 then
            fb_X4_runs_110 n k20 l0 l1 l3 l4 l5 l6 l7 h
          else
            some (0, h)
        else
          fb_X4_runs_110 n k20 l0 l1 l3 l4 l5 l6 l7 h
def fb_X4_runs_278 (n : Nat) (k20 : Nat → Nat → Int32 → Int32 → Int32 → zH → Option (Int32 × zH)) (l0 : Nat) (l1 : Nat) (l4 : Int32) (l5 : Int32) (s0 : Int32) (h : zH) : Option (Int32 × zH) :=
  fb_X4_runs_329 n k20 l0 l1 s0 l4 l5 h
def fb_X4_runs_264 (n : Nat) (k20 : Nat → Nat → Int32 → Int32 → Int32 → zH → Option (Int32 × zH)) (l0 : Nat) (l1 : Nat) (l3 : Int32) (l5 : Int32) (l8 : Int32) (s0 : Int32) (h : zH) : Option (Int32 × zH) :=
  if l8 = 0 then
    fb_X4_runs_278 n k20 l0 l1 s0 l5 (l3 - 1) h
  else
    fb_X4_runs_278 n k20 l0 l1 s0 l5 l3 h
def fb_X4_runs_250 (n : Nat) (k20 : Nat → Nat → Int32 → Int32 → Int32 → zH → Option (Int32 × zH)) (l0 : Nat) (l1 : Nat) (l3 : Int32) (l4 : Int32) (l5 : Int32) (l7 : Int32) (s0 : Int32) (h : zH) : Option (Int32 × zH) :=
  if s0 = 0 then
    fb_X4_runs_264 n k20 l0 l1 l3 l5 s0 l4 h
  else
    fb_X4_runs_264 n k20 l0 l1 l3 l5 s0 l7 h
def fb_X4_runs_242 (n : Nat) (k20 : Nat → Nat → Int32 → Int32 → Int32 → zH → Option (Int32 × zH)) (l0 : Nat) (l1 : Nat) (l3 : Int32) (l4 : Int32) (l5 : Int32) (l7 : Int32) (s0 : Int32) (s1 : Int32) (h : zH) : Option (Int32 × zH) :=
  if s0 = s1 then
    fb_X4_runs_250 n k20 l0 l1 l3 l4 l5 l7 1 h
  else
    fb_X4_runs_250 n k20 l0 l1 l3 l4 l5 l7 0 h
def fb_X4_runs_231 (n : Nat) (k20 : Nat → Nat → Int32 → Int32 → Int32 → zH → Option (Int32 × zH)) (l0 : Nat) (l1 : Nat) (l3 : Int32) (l4 : Int32) (l5 : Int32) (l6 : Int32) (l7 : Int32) (s0 : Int32) (h : zH) : Option (Int32 × zH) :=
  if l6 = 3 then
    fb_X4_runs_242 n k20 l0 l1 l3 l4 l5 l7 s0 1 h
  else
    fb_X4_runs_242 n k20 l0 l1 l3 l4 l5 l7 s0 0 h
def fb_X4_runs_213 (n : Nat) (k20 : Nat → Nat → Int32 → Int32 → Int32 → zH → Option (Int32 × zH)) (l0 : Nat) (l1 : Nat) (l3 : Int32) (l4 : Int32) (l5 : Int32) (l6 : Int32) (l7 : Int32) (h : zH) : Option (Int32 × zH) :=
  zgR h 5 l0 1 fun v1 =>
  zaL h v1 (l3 - 1) fun v2 =>
  if lg_cmp v2 0 = 0 then
    fb_X4_runs_231 n k20 l0 l1 l3 l4 l5 l6 l7 0 h
  else
    fb_X4_runs_231 n k20 l0 l1 l3 l4 l5 l6 l7 1 h
def fb_X4_runs_160 (n : Nat) (l0 : Nat) (l3 : Int32) (h : zH) : Option (Int32 × zH) :=
  zgR h 5 l0 1 fun v1 =>
  zaL h v1 (l3 - 1) fun v2 =>
  zpL h 5 l0 2 v2 fun h3 =>
  some (1, h3)
def fb_X4_runs_20 (n : Nat) (k20 : Nat → Nat → Int32 → Int32 → Int32 → zH → Option (Int32 × zH)) (l0 : Nat) (l1 : Nat) (l3 : Int32) (l4 : Int32) (l5 : Int32) (h : zH) : Option (Int32 × zH) :=
  zgI h 9 l1 3 fun v1 =>
  if v1 ≤ l5 then
    some (0, h)
  else
    if l4 < 0 then
      some (0, h)
    else
      zgI h 9 l1 3 fun v2 =>
      if l4 < v2 then
        zgR h 9 l1 0 fun v3 =>
        zaI h 21 v3 l4 fun v4 =>
        zgR h 9 l1 1 fun v5 =>
        zaI h 21 v5 l4 fun v6 =>
        if v4 = 0 then
          fb_X4_runs_77 n k20 l0 l1 l3 (l4 + 1) l5 v4 v6 h
        else
          if v4 = 1 then
            fb_X4_runs_77 n k20 l0 l1 l3 (l4 + 1) l5 v4 v6 h
          else
            if l3 < 1 then
              some (0, h)
            else
              if l3 ≤ 64 then
                if v4 = 5 then
                  fb_X4_runs_160 n l0 l3 h
                else
                  if v4 = 2 then
                    zgR h 5 l0 1 fun v16 =>
                    zgR h 5 l0 1 fun v17 =>
                    zaL h v17 (l3 - 1) fun v18 =>
                    zeL h v16 (l3 - 1) ((1 : Int64) - v18) fun h19 =>
                    fb_X4_runs_329 n k20 l0 l1 l3 (l4 + 1) l5 h19
                  else
                    if v4 = 3 then
                      fb_X4_runs_213 n k20 l0 l1 l3 (l4 + 1) l5 v4 v6 h
                    else
                      if v4 = 4 then
                        fb_X4_runs_213 n k20 l0 l1 l3 (l4 + 1) l5 v4 v6 h
                      else
                        if l3 < 2 then
                          some (0, h)
                        else
                          zgR h 5 l0 1 fun v7 =>
                          zaL h v7 (l3 - 2) fun v8 =>
                          zgR h 5 l0 1 fun v9 =>
                          zaL h v9 (l3 - 1) fun v10 =>
                          zck h 5 l0 (zb (f_X4_isBroken n l0 v4 v8 v10 h) fun r11 h12 =>
                          if r11 = 0 then
                            zgR h12 5 l0 1 fun v13 =>
                            zgL h12 5 l0 2 fun v14 =>
                            zeL h12 v13 ((l3 + (-1)) - 1) v14 fun h15 =>
                            fb_X4_runs_329 n k20 l0 l1 (l3 + (-1)) (l4 + 1) l5 h15
                          else
                            some (0, h12))
              else
                some (0, h)
      else
        some (0, h)
def f_X4_runs (n : Nat) (a0 : Nat) (a1 : Nat) (a2 : Int32) (h : zH) : Option (Int32 × zH) :=
  zpL h 5 a0 2 1 fun h1 =>
  if a2 = (-1) then
    some (1, h1)
  else
    zlp5 (fb_X4_runs_20 n ) n a0 a1 0 a2 0 h1
def fb_X6_bars_84 (n : Nat) (k32 : Nat → Nat → Int32 → zH → Option (Int32 × zH)) (l0 : Nat) (l3 : Nat) (l4 : Int32) (h : zH) : Option (Int32 × zH) :=
  k32 l0 l3 (l4 + 1) h
def fb_X6_bars_32 (n : Nat) (k32 : Nat → Nat → Int32 → zH → Option (Int32 × zH)) (l0 : Nat) (l3 : Nat) (l4 : Int32) (h : zH) : Option (Int32 × zH) :=
  zgI h 9 l3 4 fun v1 =>
  if v1 ≤ l4 then
    some (0, h)
  else
    zck h 9 l3 (zb (f_X8_entry n l3 l4 0 h) fun r2 h3 =>
    if r2 = 1 then
      zgR h3 7 l0 0 fun v4 =>
      zck h3 9 l3 (zb (f_X8_entry n l3 l4 4 h3) fun r5 h6 =>
      zck h6 5 v4 (zb (f_X4_runs n v4 l3 r5 h6) fun r7 h8 =>
      if r7 = 0 then
        fb_X6_bars_84 n k32 l0 l3 l4 h8
      else
        zgR h8 7 l0 0 fun v9 =>
        zgL h8 5 v9 2 fun v10 =>
        if lg_cmp v10 0 = 0 then
          fb_X6_bars_84 n k32 l0 l3 l4 h8
        else
          some (1, h8)))
    else
      fb_X6_bars_84 n k32 l0 l3 l4 h3)
def f_X6_bars (n : Nat) (a0 : Nat) (a1 : Int32) (a2 : Int32) (h : zH) : Option (Int32 × zH) :=
  zgI h 7 a0 3 fun v1 =>
  zck h 7 a0 (zb (f_X6_lawAt n a0 v1 h) fun r2 h3 =>
  if r2 = 0 then
    some (0, h3)
  else
    zck h3 7 a0 (zb (f_X6_tellWhere n a0 (-1) (-1) (-1) (-1) h3) fun _ h5 =>
    zck h5 7 a0 (zb (f_X6_tellWhat n a0 a1 a2 h5) fun _ h7 =>
    zlp3 (fb_X6_bars_32 n ) n a0 r2 0 h7)))
def fb_X0_lowestFree_2 (n : Nat) (k2 : Nat → Int32 → zH → Option (Int32 × zH)) (l0 : Nat) (l1 : Int32) (h : zH) : Option (Int32 × zH) :=
  if 24 ≤ l1 then
    some ((-1), h)
  else
    zgR h 1 l0 0 fun v1 =>
    zaI h 21 v1 l1 fun v2 =>
    if v2 = 0 then
      some (l1, h)
    else
      k2 l0 (l1 + 1) h
def f_X0_lowestFree (n : Nat) (a0 : Nat) (h : zH) : Option (Int32 × zH) :=
  zlp2 (fb_X0_lowestFree_2 n ) n a0 0 h
def f_X0_leadTo (n : Nat) (a0 : Nat) (a1 : Int32) (a2 : Int32) (h : zH) : Option (Unit × zH) :=
  zb (f_X11_isCell n a1 h) fun r1 h2 =>
  if r1 = 0 then
    zpI h2 1 a0 6 a2 fun h3 =>
    some ((), h3)
  else
    zgR h2 1 a0 3 fun v4 =>
    zeI h2 v4 a1 a2 fun h5 =>
    some ((), h5)
def f_X0_retire (n : Nat) (a0 : Nat) (a1 : Int32) (h : zH) : Option (Unit × zH) :=
  zgI h 1 a0 7 fun v1 =>
  if 24 ≤ v1 then
    some ((), h)
  else
    zgR h 1 a0 0 fun v2 =>
    zeI h v2 a1 2 fun h3 =>
    zgR h3 1 a0 4 fun v4 =>
    zgI h3 1 a0 7 fun v5 =>
    zeI h3 v4 v5 a1 fun h6 =>
    zgI h6 1 a0 7 fun v7 =>
    zpI h6 1 a0 7 (v7 + 1) fun h8 =>
    some ((), h8)
def fb_X0_insert_99 (n : Nat) (l0 : Nat) (l3 : Int32) (l4 : Int32) (l5 : Int32) (l6 : Int32) (s0 : Nat) (s1 : Int32) (s2 : Int32) (h : zH) : Option (Int32 × zH) :=
  zeI h s0 s1 s2 fun h1 =>
  zck h1 1 l0 (zb (f_X0_leadTo n l0 l4 l3 h1) fun _ h3 =>
  if l6 = 0 then
    some (l3, h3)
  else
    zck h3 1 l0 (zb (f_X0_retire n l0 l5 h3) fun _ h5 =>
    some (l3, h5)))
def fb_X0_insert_54 (n : Nat) (l0 : Nat) (l1 : Int32) (l2 : Int32) (l3 : Int32) (l4 : Int32) (l5 : Int32) (s0 : Int32) (h : zH) : Option (Int32 × zH) :=
  zgR h 1 l0 0 fun v1 =>
  zeI h v1 l3 1 fun h2 =>
  zgR h2 1 l0 1 fun v3 =>
  zeI h2 v3 l3 l1 fun h4 =>
  zgR h4 1 l0 2 fun v5 =>
  zeI h4 v5 l3 l2 fun h6 =>
  zgR h6 1 l0 3 fun v7 =>
  if s0 = 0 then
    fb_X0_insert_99 n l0 l3 l4 l5 s0 v7 l3 l5 h6
  else
    zgR h6 1 l0 3 fun v8 =>
    zaI h6 21 v8 l5 fun v9 =>
    fb_X0_insert_99 n l0 l3 l4 l5 s0 v7 l3 v9 h6
def fb_X0_insert_53 (n : Nat) (l0 : Nat) (l1 : Int32) (l2 : Int32) (l3 : Int32) (l4 : Int32) (l5 : Int32) (h : zH) : Option (Int32 × zH) :=
  fb_X0_insert_54 n l0 l1 l2 l3 l4 l5 0 h
def f_X0_insert (n : Nat) (a0 : Nat) (a1 : Int32) (a2 : Int32) (h : zH) : Option (Int32 × zH) :=
  zck h 1 a0 (zb (f_X0_lowestFree n a0 h) fun r1 h2 =>
  zb (f_X11_isCell n r1 h2) fun r3 h4 =>
  if r3 = 0 then
    some ((-5), h4)
  else
    zck h4 1 a0 (zb (f_X0_lastBelow n a0 a1 h4) fun r5 h6 =>
    zck h6 1 a0 (zb (f_X0_follower n a0 r5 h6) fun r7 h8 =>
    zb (f_X11_isCell n r7 h8) fun r9 h10 =>
    if r9 = 0 then
      fb_X0_insert_53 n a0 a1 a2 r1 r5 r7 h10
    else
      zgR h10 1 a0 1 fun v11 =>
      zaI h10 21 v11 r7 fun v12 =>
      if v12 = a1 then
        fb_X0_insert_54 n a0 a1 a2 r1 r5 r7 1 h10
      else
        fb_X0_insert_53 n a0 a1 a2 r1 r5 r7 h10)))
def f_X10_putKey (n : Nat) (a0 : Nat) (a1 : Int32) (a2 : Int32) (a3 : Nat) (h : zH) : Option (Int32 × zH) :=
  if a1 < 0 then
    some ((-1), h)
  else
    if 100 ≤ a1 then
      some ((-1), h)
    else
      if a2 < 0 then
        some ((-1), h)
      else
        if a2 < 1000 then
          zgI h 11 a0 9 fun v1 =>
          zck h 7 a3 (zb (f_X6_bars n a3 a1 v1 h) fun r2 h3 =>
          if r2 = 0 then
            zgR h3 11 a0 0 fun v4 =>
            zck h3 1 v4 (zb (f_X0_insert n v4 a1 a2 h3) fun r5 h6 =>
            some (r5, h6))
          else
            some ((-3), h3))
        else
          some ((-1), h)
def fb_X11_row_102 (n : Nat) (l0 : Nat) (l1 : Int32) (l2 : Int32) (h : zH) : Option (Int32 × zH) :=
  zgR h 12 l0 9 fun v1 =>
  zpI h 8 v1 1 0 fun h2 =>
  zpI h2 12 l0 14 l2 fun h3 =>
  zgR h3 12 l0 5 fun v4 =>
  zck h3 3 v4 (zb (f_X2_clear n v4 h3) fun _ h6 =>
  zck h6 12 l0 (zb (f_X11_told n l0 l1 h6) fun r7 h8 =>
  some (r7, h8)))
def fb_X11_row_96 (n : Nat) (k31 : Nat → Int32 → Int32 → Int32 → zH → Option (Int32 × zH)) (l0 : Nat) (l1 : Int32) (l2 : Int32) (l3 : Int32) (h : zH) : Option (Int32 × zH) :=
  k31 l0 l1 l2 (l3 + 2) h
def fb_X11_row_31 (n : Nat) (k31 : Nat → Int32 → Int32 → Int32 → zH → Option (Int32 × zH)) (l0 : Nat) (l1 : Int32) (l2 : Int32) (l3 : Int32) (h : zH) : Option (Int32 × zH) :=
  zgR h 12 l0 9 fun v1 =>
  zgI h 8 v1 1 fun v2 =>
  if v2 ≤ l3 + 1 then
    fb_X11_row_102 n l0 l1 l2 h
  else
    if 400 ≤ l3 + 1 then
      fb_X11_row_102 n l0 l1 l2 h
    else
      zgR h 12 l0 0 fun v3 =>
      zgR h 12 l0 9 fun v4 =>
      zgR h 8 v4 0 fun v5 =>
      zaI h 21 v5 l3 fun v6 =>
      zgR h 12 l0 9 fun v7 =>
      zgR h 8 v7 0 fun v8 =>
      zaI h 21 v8 (l3 + 1) fun v9 =>
      zgR h 12 l0 3 fun v10 =>
      zck h 11 v3 (zb (f_X10_putKey n v3 v6 v9 v10 h) fun r11 h12 =>
      if r11 < 0 then
        fb_X11_row_96 n k31 l0 l1 (l2 + 1) l3 h12
      else
        fb_X11_row_96 n k31 l0 (l1 + 1) l2 l3 h12)
def f_X11_row (n : Nat) (a0 : Nat) (h : zH) : Option (Int32 × zH) :=
  zgR h 12 a0 9 fun v1 =>
  zgI h 8 v1 1 fun v2 =>
  if v2 = 0 then
    zck h 12 a0 (zb (f_X11_told n a0 (-6) h) fun r6 h7 =>
    some (r6, h7))
  else
    zgR h 12 a0 9 fun v3 =>
    zgI h 8 v3 1 fun v4 =>
    zlt (v4 - v4 / 2 * 2) fun x5 =>
    zlp4 (fb_X11_row_31 n ) n a0 0 x5 0 h
def f_X11_tears (n : Nat) (a0 : Nat) (h : zH) : Option (Int32 × zH) :=
  zgI h 12 a0 14 fun v1 =>
  some (v1, h)
def f_X9_byteAt (n : Nat) (a0 : Nat) (a1 : Int32) (h : zH) : Option (Int32 × zH) :=
  if a1 < 0 then
    some (0, h)
  else
    if 400 ≤ a1 then
      some (0, h)
    else
      zgR h 8 a0 0 fun v1 =>
      zaI h 21 v1 a1 fun v2 =>
      some (v2, h)
def f_X9_isLetter (n : Nat) (a0 : Int32) (h : zH) : Option (Int32 × zH) :=
  if a0 < 97 then
    some (0, h)
  else
    if 122 < a0 then
      some (0, h)
    else
      some (1, h)
def fb_X9_same_15 (n : Nat) (k15 : Nat → Int32 → Nat → Int32 → zH → Option (Int32 × zH)) (l0 : Nat) (l1 : Int32) (l3 : Nat) (l4 : Int32) (h : zH) : Option (Int32 × zH) :=
  zb (zStrLen l3 h) fun r1 h2 =>
  if r1 ≤ l4 then
    some (1, h2)
  else
    zb (f_X9_byteAt n l0 (l1 + l4) h2) fun r3 h4 =>
    zb (zStrAt l3 l4 h4) fun r5 h6 =>
    if r3 = r5 then
      k15 l0 l1 l3 (l4 + 1) h6
    else
      some (0, h6)
def f_X9_same (n : Nat) (a0 : Nat) (a1 : Int32) (a2 : Int32) (a3 : Nat) (h : zH) : Option (Int32 × zH) :=
  zb (zStrLen a3 h) fun r1 h2 =>
  if a2 - a1 = r1 then
    zlp4 (fb_X9_same_15 n ) n a0 a1 a3 0 h2
  else
    some (0, h2)
def f_X9_lawWord (n : Nat) (a0 : Nat) (a1 : Int32) (a2 : Int32) (h : zH) : Option (Int32 × zH) :=
  zb (f_X9_same n a0 a1 a2 4 h) fun r1 h2 =>
  if r1 = 0 then
    zb (f_X9_same n a0 a1 a2 5 h2) fun r3 h4 =>
    if r3 = 0 then
      zb (f_X9_same n a0 a1 a2 6 h4) fun r5 h6 =>
      if r5 = 0 then
        zb (f_X9_same n a0 a1 a2 7 h6) fun r7 h8 =>
        if r7 = 0 then
          zb (f_X9_same n a0 a1 a2 8 h8) fun r9 h10 =>
          if r9 = 0 then
            zb (f_X9_same n a0 a1 a2 9 h10) fun r11 h12 =>
            if r11 = 0 then
              zb (f_X9_same n a0 a1 a2 10 h12) fun r13 h14 =>
              if r13 = 0 then
                zb (f_X9_same n a0 a1 a2 11 h14) fun r15 h16 =>
                if r15 = 0 then
                  zb (f_X9_same n a0 a1 a2 12 h16) fun r17 h18 =>
                  if r17 = 0 then
                    some (2, h18)
                  else
                    some (406, h18)
                else
                  some (405, h16)
              else
                some (404, h14)
            else
              some (403, h12)
          else
            some (402, h10)
        else
          some (401, h8)
      else
        some (400, h6)
    else
      some (263, h4)
  else
    some (262, h2)
def f_X9_actWord (n : Nat) (a0 : Nat) (a1 : Int32) (a2 : Int32) (h : zH) : Option (Int32 × zH) :=
  zb (f_X9_same n a0 a1 a2 13 h) fun r1 h2 =>
  if r1 = 0 then
    zb (f_X9_same n a0 a1 a2 14 h2) fun r3 h4 =>
    if r3 = 0 then
      zb (f_X9_same n a0 a1 a2 15 h4) fun r5 h6 =>
      if r5 = 0 then
        zb (f_X9_same n a0 a1 a2 16 h6) fun r7 h8 =>
        if r7 = 0 then
          zb (f_X9_same n a0 a1 a2 17 h8) fun r9 h10 =>
          if r9 = 0 then
            zb (f_X9_same n a0 a1 a2 18 h10) fun r11 h12 =>
            if r11 = 0 then
              zb (f_X9_same n a0 a1 a2 19 h12) fun r13 h14 =>
              if r13 = 0 then
                zb (f_X9_same n a0 a1 a2 20 h14) fun r15 h16 =>
                if r15 = 0 then
                  some (2, h16)
                else
                  some (307, h16)
              else
                some (306, h14)
            else
              some (305, h12)
          else
            some (304, h10)
        else
          some (303, h8)
      else
        some (302, h6)
    else
      some (301, h4)
  else
    some (300, h2)
def f_X9_orderWord (n : Nat) (a0 : Nat) (a1 : Int32) (a2 : Int32) (h : zH) : Option (Int32 × zH) :=
  zb (f_X9_same n a0 a1 a2 21 h) fun r1 h2 =>
  if r1 = 0 then
    zb (f_X9_same n a0 a1 a2 22 h2) fun r3 h4 =>
    if r3 = 0 then
      zb (f_X9_same n a0 a1 a2 23 h4) fun r5 h6 =>
      if r5 = 0 then
        zb (f_X9_same n a0 a1 a2 24 h6) fun r7 h8 =>
        if r7 = 0 then
          zb (f_X9_same n a0 a1 a2 11 h8) fun r9 h10 =>
          if r9 = 0 then
            zb (f_X9_same n a0 a1 a2 25 h10) fun r11 h12 =>
            if r11 = 0 then
              zb (f_X9_same n a0 a1 a2 26 h12) fun r13 h14 =>
              if r13 = 0 then
                zb (f_X9_same n a0 a1 a2 27 h14) fun r15 h16 =>
                if r15 = 0 then
                  zb (f_X9_same n a0 a1 a2 28 h16) fun r17 h18 =>
                  if r17 = 0 then
                    some (2, h18)
                  else
                    some (404, h18)
                else
                  some (403, h16)
              else
                some (402, h14)
            else
              some (401, h12)
          else
            some (400, h10)
        else
          some (265, h8)
      else
        some (264, h6)
    else
      some (261, h4)
  else
    some (260, h2)
def f_X9_wordFrom (n : Nat) (a0 : Nat) (a1 : Int32) (a2 : Int32) (a3 : Int32) (h : zH) : Option (Int32 × zH) :=
  zb (f_X9_same n a0 a1 a2 0 h) fun r1 h2 =>
  if r1 = 0 then
    zb (f_X9_same n a0 a1 a2 1 h2) fun r3 h4 =>
    if r3 = 0 then
      zb (f_X9_same n a0 a1 a2 2 h4) fun r5 h6 =>
      if r5 = 0 then
        zb (f_X9_same n a0 a1 a2 3 h6) fun r7 h8 =>
        if r7 = 0 then
          if a3 = 0 then
            zb (f_X9_lawWord n a0 a1 a2 h8) fun r13 h14 =>
            some (r13, h14)
          else
            zb (f_X9_actWord n a0 a1 a2 h8) fun r9 h10 =>
            if r9 = 2 then
              zb (f_X9_orderWord n a0 a1 a2 h10) fun r11 h12 =>
              some (r11, h12)
            else
              some (r9, h10)
        else
          some (259, h8)
      else
        some (258, h6)
    else
      some (257, h4)
  else
    some (256, h2)
def f_X9_add (n : Nat) (a0 : Nat) (a1 : Int32) (a2 : Int32) (a3 : Int32) (h : zH) : Option (Unit × zH) :=
  zgI h 10 a0 3 fun v1 =>
  if 401 ≤ v1 then
    some ((), h)
  else
    zgR h 10 a0 0 fun v2 =>
    zgI h 10 a0 3 fun v3 =>
    zeI h v2 v3 a1 fun h4 =>
    zgR h4 10 a0 1 fun v5 =>
    zgI h4 10 a0 3 fun v6 =>
    zeI h4 v5 v6 a2 fun h7 =>
    zgR h7 10 a0 2 fun v8 =>
    zgI h7 10 a0 3 fun v9 =>
    zeI h7 v8 v9 a3 fun h10 =>
    zgI h10 10 a0 3 fun v11 =>
    zpI h10 10 a0 3 (v11 + 1) fun h12 =>
    some ((), h12)
def f_X9_isDigit (n : Nat) (a0 : Int32) (h : zH) : Option (Int32 × zH) :=
  if a0 < 48 then
    some (0, h)
  else
    if 57 < a0 then
      some (0, h)
    else
      some (1, h)
def fb_X9_split_193 (n : Nat) (l0 : Nat) (l1 : Nat) (h : zH) : Option (Unit × zH) :=
  zgI h 8 l1 1 fun v1 =>
  zck h 10 l0 (zb (f_X9_add n l0 0 v1 0 h) fun _ h3 =>
  some ((), h3))
def fb_X9_split_187 (n : Nat) (k10 : Nat → Nat → Int32 → Int32 → Int32 → zH → Option (Unit × zH)) (l0 : Nat) (l1 : Nat) (l2 : Int32) (l3 : Int32) (l4 : Int32) (h : zH) : Option (Unit × zH) :=
  k10 l0 l1 l2 l3 (l4 + 1) h
def fb_X9_split_181 (n : Nat) (k10 : Nat → Nat → Int32 → Int32 → Int32 → zH → Option (Unit × zH)) (l0 : Nat) (l1 : Nat) (l2 : Int32) (l3 : Int32) (l4 : Int32) (l6 : Int32) (s0 : Nat) (s1 : Int32) (h : zH) : Option (Unit × zH) :=
  zck h 10 s0 (zb (f_X9_add n s0 s1 l6 0 h) fun _ h2 =>
  fb_X9_split_187 n k10 l0 l1 l2 l3 l4 h2)
def fb_X9_split_145 (n : Nat) (k10 : Nat → Nat → Int32 → Int32 → Int32 → zH → Option (Unit × zH)) (l0 : Nat) (l1 : Nat) (l2 : Int32) (l3 : Int32) (l4 : Int32) (l6 : Int32) (l7 : Int32) (h : zH) : Option (Unit × zH) :=
  zck h 10 l0 (zb (f_X9_add n l0 1 l6 l7 h) fun _ h2 =>
  fb_X9_split_187 n k10 l0 l1 l2 l3 l4 h2)
def fb_X9_split_98 (n : Nat) (k10 : Nat → Nat → Int32 → Int32 → Int32 → zH → Option (Unit × zH)) (k98 : Nat → Nat → Int32 → Int32 → Int32 → Int32 → Int32 → zH → Option (Unit × zH)) (l0 : Nat) (l1 : Nat) (l2 : Int32) (l3 : Int32) (l4 : Int32) (l6 : Int32) (l7 : Int32) (h : zH) : Option (Unit × zH) :=
  zgI h 8 l1 1 fun v1 =>
  if v1 ≤ l3 then
    fb_X9_split_145 n k10 l0 l1 l2 l3 l4 l6 l7 h
  else
    zb (f_X9_byteAt n l1 l3 h) fun r2 h3 =>
    zb (f_X9_isDigit n r2 h3) fun r4 h5 =>
    if r4 = 0 then
      fb_X9_split_145 n k10 l0 l1 l2 l3 l4 l6 l7 h5
    else
      zb (f_X9_byteAt n l1 l3 h5) fun r6 h7 =>
      zb (f_J9_min_7cf53 n 10000 ((((10 : Int32) * l7) + r6) - 48) h7) fun r8 h9 =>
      k98 l0 l1 l2 (l3 + 1) l4 l6 r8 h9
def fb_X9_split_69 (n : Nat) (k10 : Nat → Nat → Int32 → Int32 → Int32 → zH → Option (Unit × zH)) (l0 : Nat) (l1 : Nat) (l2 : Int32) (l3 : Int32) (l4 : Int32) (l6 : Int32) (h : zH) : Option (Unit × zH) :=
  zb (f_X9_wordFrom n l1 l6 l3 l2 h) fun r1 h2 =>
  zck h2 10 l0 (zb (f_X9_add n l0 r1 l6 0 h2) fun _ h4 =>
  fb_X9_split_187 n k10 l0 l1 l2 l3 l4 h4)
def fb_X9_split_44 (n : Nat) (k10 : Nat → Nat → Int32 → Int32 → Int32 → zH → Option (Unit × zH)) (k44 : Nat → Nat → Int32 → Int32 → Int32 → Int32 → zH → Option (Unit × zH)) (l0 : Nat) (l1 : Nat) (l2 : Int32) (l3 : Int32) (l4 : Int32) (l6 : Int32) (h : zH) : Option (Unit × zH) :=
  zgI h 8 l1 1 fun v1 =>
  if v1 ≤ l3 then
    fb_X9_split_69 n k10 l0 l1 l2 l3 l4 l6 h
  else
    zb (f_X9_byteAt n l1 l3 h) fun r2 h3 =>
    zb (f_X9_isLetter n r2 h3) fun r4 h5 =>
    if r4 = 0 then
      fb_X9_split_69 n k10 l0 l1 l2 l3 l4 l6 h5
    else
      k44 l0 l1 l2 (l3 + 1) l4 l6 h5
def fb_X9_split_10 (n : Nat) (k10 : Nat → Nat → Int32 → Int32 → Int32 → zH → Option (Unit × zH)) (l0 : Nat) (l1 : Nat) (l2 : Int32) (l3 : Int32) (l4 : Int32) (h : zH) : Option (Unit × zH) :=
  if 400 ≤ l4 then
    fb_X9_split_193 n l0 l1 h
  else
    zgI h 8 l1 1 fun v1 =>
    if v1 ≤ l3 then
      fb_X9_split_193 n l0 l1 h
    else
      zb (f_X9_byteAt n l1 l3 h) fun r2 h3 =>
      zb (f_X9_isLetter n r2 h3) fun r4 h5 =>
      if r4 = 0 then
        zb (f_X9_isDigit n r2 h5) fun r6 h7 =>
        if r6 = 0 then
          if r2 = 32 then
            fb_X9_split_187 n k10 l0 l1 l2 (l3 + 1) l4 h7
          else
            if r2 ≤ 32 then
              fb_X9_split_181 n k10 l0 l1 l2 (l3 + 1) l4 l3 l0 2 h7
            else
              fb_X9_split_181 n k10 l0 l1 l2 (l3 + 1) l4 l3 l0 r2 h7
        else
          zlp7 (fb_X9_split_98 n k10 ) n l0 l1 l2 l3 l4 l3 0 h7
      else
        zlp6 (fb_X9_split_44 n k10 ) n l0 l1 l2 l3 l4 l3 h5
def f_X9_split (n : Nat) (a0 : Nat) (a1 : Nat) (a2 : Int32) (h : zH) : Option (Unit × zH) :=
  zpI h 10 a0 3 0 fun h1 =>
  zlp5 (fb_X9_split_10 n ) n a0 a1 a2 0 0 h1
def f_X8_clear (n : Nat) (a0 : Nat) (h : zH) : Option (Unit × zH) :=
  zpI h 9 a0 3 0 fun h1 =>
  zpI h1 9 a0 4 0 fun h2 =>
  some ((), h2)
def f_X5_present (n : Nat) (a0 : Nat) (h : zH) : Option (Int32 × zH) :=
  zgI h 6 a0 2 fun v1 =>
  if v1 < 0 then
    some (0, h)
  else
    zgI h 6 a0 2 fun v2 =>
    if 401 ≤ v2 then
      some (0, h)
    else
      zgR h 6 a0 1 fun v3 =>
      zgR h 10 v3 0 fun v4 =>
      zgI h 6 a0 2 fun v5 =>
      zaI h 21 v4 v5 fun v6 =>
      some (v6, h)
def f_X8_setEntry (n : Nat) (a0 : Nat) (a1 : Int32) (a2 : Int32) (h : zH) : Option (Unit × zH) :=
  zgI h 9 a0 4 fun v1 =>
  zlt (((5 : Int32) * (v1 - 1)) + a1) fun x2 =>
  if x2 < 0 then
    some ((), h)
  else
    zgR h 9 a0 2 fun v3 =>
    zln' h 21 v3 fun v4 =>
    if v4 ≤ x2 then
      some ((), h)
    else
      zgR h 9 a0 2 fun v5 =>
      zeI h v5 x2 a2 fun h6 =>
      some ((), h6)
def f_X8_addClause (n : Nat) (a0 : Nat) (a1 : Int32) (h : zH) : Option (Unit × zH) :=
  zgI h 9 a0 4 fun v1 =>
  zpI h 9 a0 4 (v1 + 1) fun h2 =>
  zck h2 9 a0 (zb (f_X8_setEntry n a0 0 a1 h2) fun _ h4 =>
  zck h4 9 a0 (zb (f_X8_setEntry n a0 1 (-1) h4) fun _ h6 =>
  zck h6 9 a0 (zb (f_X8_setEntry n a0 2 (-1) h6) fun _ h8 =>
  zck h8 9 a0 (zb (f_X8_setEntry n a0 3 1 h8) fun _ h10 =>
  zck h10 9 a0 (zb (f_X8_setEntry n a0 4 (-1) h10) fun _ h12 =>
  some ((), h12))))))
def f_X5_fails (n : Nat) (a0 : Nat) (h : zH) : Option (Int32 × zH) :=
  zgI h 6 a0 2 fun v1 =>
  if v1 < 0 then
    zpI h 6 a0 4 0 fun h2 =>
    some (0, h2)
  else
    zgI h 6 a0 2 fun v3 =>
    if 401 ≤ v3 then
      zpI h 6 a0 4 0 fun h4 =>
      some (0, h4)
    else
      zgR h 6 a0 1 fun v5 =>
      zgR h 10 v5 1 fun v6 =>
      zgI h 6 a0 2 fun v7 =>
      zaI h 21 v6 v7 fun v8 =>
      zpI h 6 a0 4 v8 fun h9 =>
      some (0, h9)
def fb_X5_takes_38 (n : Nat) (l0 : Nat) (s0 : Int32) (h : zH) : Option (Int32 × zH) :=
  zgI h 6 l0 2 fun v1 =>
  if s0 = 0 then
    zpI h 6 l0 2 (v1 + 0) fun h2 =>
    zrZ s0 h2
  else
    zpI h 6 l0 2 (v1 + 1) fun h3 =>
    zrZ s0 h3
def fb_X5_takes_37 (n : Nat) (l0 : Nat) (h : zH) : Option (Int32 × zH) :=
  fb_X5_takes_38 n l0 0 h
def f_X5_takes (n : Nat) (a0 : Nat) (a1 : Int32) (h : zH) : Option (Int32 × zH) :=
  zgI h 6 a0 2 fun v1 =>
  if v1 < 0 then
    fb_X5_takes_37 n a0 h
  else
    zgI h 6 a0 2 fun v2 =>
    if 401 ≤ v2 then
      fb_X5_takes_37 n a0 h
    else
      zgR h 6 a0 1 fun v3 =>
      zgR h 10 v3 0 fun v4 =>
      zgI h 6 a0 2 fun v5 =>
      zaI h 21 v4 v5 fun v6 =>
      if v6 = a1 then
        fb_X5_takes_38 n a0 1 h
      else
        fb_X5_takes_37 n a0 h
def f_X8_addStep (n : Nat) (a0 : Nat) (a1 : Int32) (a2 : Int32) (h : zH) : Option (Int32 × zH) :=
  zgI h 9 a0 3 fun v1 =>
  zgR h 9 a0 0 fun v2 =>
  zln' h 21 v2 fun v3 =>
  if v3 ≤ v1 then
    some ((-1), h)
  else
    zgI h 9 a0 3 fun v4 =>
    zgR h 9 a0 1 fun v5 =>
    zln' h 21 v5 fun v6 =>
    if v4 < v6 then
      zgR h 9 a0 0 fun v7 =>
      zgI h 9 a0 3 fun v8 =>
      zeI h v7 v8 a1 fun h9 =>
      zgR h9 9 a0 1 fun v10 =>
      zgI h9 9 a0 3 fun v11 =>
      zeI h9 v10 v11 a2 fun h12 =>
      zgI h12 9 a0 3 fun v13 =>
      zpI h12 9 a0 3 (v13 + 1) fun h14 =>
      zgI h14 9 a0 3 fun v15 =>
      some (v15 - 1, h14)
    else
      some ((-1), h)
def f_X5_numberWithin (n : Nat) (a0 : Nat) (a1 : Int32) (a2 : Int32) (h : zH) : Option (Int32 × zH) :=
  zgI h 6 a0 2 fun v1 =>
  if v1 < 0 then
    some ((-1), h)
  else
    zgI h 6 a0 2 fun v2 =>
    if 401 ≤ v2 then
      some ((-1), h)
    else
      zgR h 6 a0 1 fun v3 =>
      zgR h 10 v3 0 fun v4 =>
      zgI h 6 a0 2 fun v5 =>
      zaI h 21 v4 v5 fun v6 =>
      if v6 = 1 then
        zgR h 6 a0 1 fun v7 =>
        zgR h 10 v7 2 fun v8 =>
        zgI h 6 a0 2 fun v9 =>
        zaI h 21 v8 v9 fun v10 =>
        if v10 < a1 then
          some ((-1), h)
        else
          if a2 < v10 then
            some ((-1), h)
          else
            some (v10, h)
      else
        some ((-1), h)
def f_X5_number (n : Nat) (a0 : Nat) (a1 : Int32) (a2 : Int32) (a3 : Int32) (h : zH) : Option (Int32 × zH) :=
  zck h 6 a0 (zb (f_X5_numberWithin n a0 0 a3 h) fun r1 h2 =>
  if r1 = (-1) then
    zck h2 6 a0 (zb (f_X5_fails n a0 h2) fun r8 h9 =>
    zrZ r8 h9)
  else
    zgR h2 6 a0 0 fun v3 =>
    zck h2 9 v3 (zb (f_X8_addStep n v3 a1 (a2 + r1) h2) fun r4 h5 =>
    zgI h5 6 a0 2 fun v6 =>
    zpI h5 6 a0 2 (v6 + 1) fun h7 =>
    some (1, h7)))
def fb_X5_part_130 (n : Nat) (kH : Nat → Int32 → zH → Option (Int32 × zH)) (l0 : Nat) (h : zH) : Option (Int32 × zH) :=
  zck h 6 l0 (zb (f_X5_takes n l0 264 h) fun r1 h2 =>
  if r1 = 0 then
    zck h2 6 l0 (zb (f_X5_takes n l0 265 h2) fun r3 h4 =>
    if r3 = 0 then
      zck h4 6 l0 (zb (f_X5_number n l0 0 0 1000 h4) fun r5 h6 =>
      zrZ r5 h6)
    else
      zck h4 6 l0 (zb (f_X5_number n l0 1 13 99 h4) fun r7 h8 =>
      zrZ r7 h8))
  else
    zck h2 6 l0 (zb (f_X5_number n l0 1 5 7 h2) fun r9 h10 =>
    zrZ r9 h10))
def f_X5_part (n : Nat) (kH : Nat → Int32 → zH → Option (Int32 × zH)) (a0 : Nat) (a1 : Int32) (h : zH) : Option (Int32 × zH) :=
  zck h 6 a0 (zb (f_X5_present n a0 h) fun r1 h2 =>
  if r1 = 91 then
    if a1 < 8 then
      zgI h2 6 a0 2 fun v13 =>
      zpI h2 6 a0 2 (v13 + 1) fun h14 =>
      zck h14 6 a0 (zb (kH a0 (a1 + 1) h14) fun r15 h16 =>
      if r15 = 0 then
        some (0, h16)
      else
        zck h16 6 a0 (zb (f_X5_takes n a0 93 h16) fun r17 h18 =>
        if r17 = 0 then
          zck h18 6 a0 (zb (f_X5_fails n a0 h18) fun r19 h20 =>
          if r19 = 0 then
            some (0, h20)
          else
            some (1, h20))
        else
          some (1, h18)))
    else
      zck h2 6 a0 (zb (f_X5_fails n a0 h2) fun r21 h22 =>
      zrZ r21 h22)
  else
    zgI h2 6 a0 3 fun v3 =>
    if v3 < 50 then
      zgI h2 6 a0 3 fun v4 =>
      zpI h2 6 a0 3 (v4 + 1) fun h5 =>
      if r1 < 400 then
        fb_X5_part_130 n kH a0 h5
      else
        if 500 ≤ r1 then
          fb_X5_part_130 n kH a0 h5
        else
          zgR h5 6 a0 0 fun v6 =>
          zck h5 9 v6 (zb (f_X8_addStep n v6 1 (r1 - 400) h5) fun r7 h8 =>
          zgI h8 6 a0 2 fun v9 =>
          zpI h8 6 a0 2 (v9 + 1) fun h10 =>
          some (1, h10))
    else
      zck h2 6 a0 (zb (f_X5_fails n a0 h2) fun r11 h12 =>
      zrZ r11 h12))
def fb_X5_sum_148 (n : Nat) (kH : Nat → Int32 → zH → Option (Int32 × zH)) (l0 : Nat) (h : zH) : Option (Int32 × zH) :=
  zck h 6 l0 (zb (f_X5_fails n l0 h) fun r1 h2 =>
  zrZ r1 h2)
def fb_X5_sum_132 (n : Nat) (kH : Nat → Int32 → zH → Option (Int32 × zH)) (k4 : Nat → Int32 → Int32 → Int32 → zH → Option (Int32 × zH)) (l0 : Nat) (l1 : Int32) (l2 : Int32) (l3 : Int32) (h : zH) : Option (Int32 × zH) :=
  zgI h 6 l0 2 fun v1 =>
  zpI h 6 l0 2 (v1 + 1) fun h2 =>
  k4 l0 l1 l2 (l3 + 1) h2
def fb_X5_sum_113 (n : Nat) (kH : Nat → Int32 → zH → Option (Int32 × zH)) (k4 : Nat → Int32 → Int32 → Int32 → zH → Option (Int32 × zH)) (l0 : Nat) (l1 : Int32) (l3 : Int32) (h : zH) : Option (Int32 × zH) :=
  zck h 6 l0 (zb (f_X5_present n l0 h) fun r1 h2 =>
  if r1 = 43 then
    fb_X5_sum_132 n kH k4 l0 l1 r1 l3 h2
  else
    if r1 = 45 then
      fb_X5_sum_132 n kH k4 l0 l1 r1 l3 h2
    else
      some (1, h2))
def fb_X5_sum_98 (n : Nat) (kH : Nat → Int32 → zH → Option (Int32 × zH)) (k4 : Nat → Int32 → Int32 → Int32 → zH → Option (Int32 × zH)) (l0 : Nat) (l1 : Int32) (l2 : Int32) (l3 : Int32) (h : zH) : Option (Int32 × zH) :=
  if l2 = (-1) then
    fb_X5_sum_113 n kH k4 l0 l1 l3 h
  else
    zgR h 6 l0 0 fun v1 =>
    zck h 9 v1 (zb (f_X8_addStep n v1 l2 0 h) fun r2 h3 =>
    fb_X5_sum_113 n kH k4 l0 l1 l3 h3)
def fb_X5_sum_82 (n : Nat) (kH : Nat → Int32 → zH → Option (Int32 × zH)) (k4 : Nat → Int32 → Int32 → Int32 → zH → Option (Int32 × zH)) (k17 : Nat → Int32 → Int32 → Int32 → Int32 → Int32 → zH → Option (Int32 × zH)) (l0 : Nat) (l1 : Int32) (l2 : Int32) (l3 : Int32) (l4 : Int32) (l5 : Int32) (h : zH) : Option (Int32 × zH) :=
  zgI h 6 l0 2 fun v1 =>
  zpI h 6 l0 2 (v1 + 1) fun h2 =>
  k17 l0 l1 l2 l3 l4 (l5 + 1) h2
def fb_X5_sum_79 (n : Nat) (kH : Nat → Int32 → zH → Option (Int32 × zH)) (k4 : Nat → Int32 → Int32 → Int32 → zH → Option (Int32 × zH)) (l0 : Nat) (l1 : Int32) (l2 : Int32) (l3 : Int32) (h : zH) : Option (Int32 × zH) :=
  fb_X5_sum_98 n kH k4 l0 l1 l2 l3 h
def fb_X5_sum_52 (n : Nat) (kH : Nat → Int32 → zH → Option (Int32 × zH)) (k4 : Nat → Int32 → Int32 → Int32 → zH → Option (Int32 × zH)) (k17 : Nat → Int32 → Int32 → Int32 → Int32 → Int32 → zH → Option (Int32 × zH)) (l0 : Nat) (l1 : Int32) (l2 : Int32) (l3 : Int32) (l5 : Int32) (h : zH) : Option (Int32 × zH) :=
  zck h 6 l0 (zb (f_X5_present n l0 h) fun r1 h2 =>
  if r1 = 42 then
    fb_X5_sum_82 n kH k4 k17 l0 l1 l2 l3 r1 l5 h2
  else
    if r1 = 47 then
      fb_X5_sum_82 n kH k4 k17 l0 l1 l2 l3 r1 l5 h2
    else
      if r1 = 37 then
        fb_X5_sum_82 n kH k4 k17 l0 l1 l2 l3 r1 l5 h2
      else
        fb_X5_sum_79 n kH k4 l0 l1 l2 l3 h2)
def fb_X5_sum_17 (n : Nat) (kH : Nat → Int32 → zH → Option (Int32 × zH)) (k4 : Nat → Int32 → Int32 → Int32 → zH → Option (Int32 × zH)) (k17 : Nat → Int32 → Int32 → Int32 → Int32 → Int32 → zH → Option (Int32 × zH)) (l0 : Nat) (l1 : Int32) (l2 : Int32) (l3 : Int32) (l4 : Int32) (l5 : Int32) (h : zH) : Option (Int32 × zH) :=
  if 400 ≤ l5 then
    fb_X5_sum_98 n kH k4 l0 l1 l2 l3 h
  else
    zck h 6 l0 (zb (f_X5_part n kH l0 l1 h) fun r1 h2 =>
    if r1 = 0 then
      some (0, h2)
    else
      if l4 = (-1) then
        fb_X5_sum_52 n kH k4 k17 l0 l1 l2 l3 l5 h2
      else
        zgR h2 6 l0 0 fun v3 =>
        zck h2 9 v3 (zb (f_X8_addStep n v3 l4 0 h2) fun r4 h5 =>
        fb_X5_sum_52 n kH k4 k17 l0 l1 l2 l3 l5 h5))
def fb_X5_sum_4 (n : Nat) (kH : Nat → Int32 → zH → Option (Int32 × zH)) (k4 : Nat → Int32 → Int32 → Int32 → zH → Option (Int32 × zH)) (l0 : Nat) (l1 : Int32) (l2 : Int32) (l3 : Int32) (h : zH) : Option (Int32 × zH) :=
  if 400 ≤ l3 then
    fb_X5_sum_148 n kH l0 h
  else
    zlp6 (fb_X5_sum_17 n kH k4 ) n l0 l1 l2 l3 (-1) 0 h
def fB_X5_sum (n : Nat) (kH : Nat → Int32 → zH → Option (Int32 × zH)) (a0 : Nat) (a1 : Int32) (h : zH) : Option (Int32 × zH) :=
  zlp4 (fb_X5_sum_4 n kH ) n a0 a1 (-1) 0 h
def f_X5_sum (n : Nat) : Nat → Nat → Int32 → zH → Option (Int32 × zH) := zlp2 (fB_X5_sum n)
def f_X5_wholeSum (n : Nat) (a0 : Nat) (a1 : Int32) (h : zH) : Option (Int32 × zH) :=
  zgR h 6 a0 0 fun v1 =>
  zgR h 6 a0 0 fun v2 =>
  zgI h 9 v2 3 fun v3 =>
  zck h 9 v1 (zb (f_X8_setEntry n v1 a1 v3 h) fun _ h5 =>
  zck h5 6 a0 (zb (f_X5_sum n 12 a0 0 h5) fun r6 h7 =>
  if r6 = 0 then
    some (0, h7)
  else
    zgR h7 6 a0 0 fun v8 =>
    zck h7 9 v8 (zb (f_X8_addStep n v8 5 0 h7) fun r9 h10 =>
    some (1, h10))))
def fb_X5_orderClause_19 (n : Nat) (l0 : Nat) (h : zH) : Option (Int32 × zH) :=
  zck h 6 l0 (zb (f_X5_fails n l0 h) fun r1 h2 =>
  zrZ r1 h2)
def fb_X5_orderClause_87 (n : Nat) (l0 : Nat) (h : zH) : Option (Int32 × zH) :=
  zck h 6 l0 (zb (f_X5_takes n l0 261 h) fun r1 h2 =>
  if r1 = 0 then
    some (1, h2)
  else
    zck h2 6 l0 (zb (f_X5_numberWithin n l0 1 20 h2) fun r3 h4 =>
    if r3 = (-1) then
      zck h4 6 l0 (zb (f_X5_fails n l0 h4) fun r10 h11 =>
      zrZ r10 h11)
    else
      zgR h4 6 l0 0 fun v5 =>
      zck h4 9 v5 (zb (f_X8_setEntry n v5 3 r3 h4) fun _ h7 =>
      zgI h7 6 l0 2 fun v8 =>
      zpI h7 6 l0 2 (v8 + 1) fun h9 =>
      some (1, h9))))
def fb_X5_orderClause_58 (n : Nat) (l0 : Nat) (l1 : Int32) (h : zH) : Option (Int32 × zH) :=
  if l1 = 0 then
    zck h 6 l0 (zb (f_X5_takes n l0 260 h) fun r1 h2 =>
    if r1 = 0 then
      zck h2 6 l0 (zb (f_X5_fails n l0 h2) fun r5 h6 =>
      zrZ r5 h6)
    else
      zck h2 6 l0 (zb (f_X5_wholeSum n l0 2 h2) fun r3 h4 =>
      if r3 = 0 then
        some (0, h4)
      else
        fb_X5_orderClause_87 n l0 h4))
  else
    fb_X5_orderClause_87 n l0 h
def f_X5_orderClause (n : Nat) (a0 : Nat) (h : zH) : Option (Int32 × zH) :=
  zck h 6 a0 (zb (f_X5_present n a0 h) fun r1 h2 =>
  zlt (r1 - 300) fun x3 =>
  if x3 < 0 then
    fb_X5_orderClause_19 n a0 h2
  else
    if x3 ≤ 7 then
      zgI h2 6 a0 2 fun v4 =>
      zpI h2 6 a0 2 (v4 + 1) fun h5 =>
      zgR h5 6 a0 0 fun v6 =>
      zck h5 9 v6 (zb (f_X8_addClause n v6 x3 h5) fun _ h8 =>
      if x3 = 7 then
        fb_X5_orderClause_58 n a0 x3 h8
      else
        zck h8 6 a0 (zb (f_X5_wholeSum n a0 1 h8) fun r9 h10 =>
        if r9 = 0 then
          some (0, h10)
        else
          fb_X5_orderClause_58 n a0 x3 h10))
    else
      fb_X5_orderClause_19 n a0 h2)
def f_X5_lawClause (n : Nat) (a0 : Nat) (h : zH) : Option (Int32 × zH) :=
  zck h 6 a0 (zb (f_X5_takes n a0 263 h) fun r1 h2 =>
  if r1 = 0 then
    zck h2 6 a0 (zb (f_X5_takes n a0 262 h2) fun r3 h4 =>
    if r3 = 0 then
      zck h4 6 a0 (zb (f_X5_fails n a0 h4) fun r10 h11 =>
      zrZ r10 h11)
    else
      zgR h4 6 a0 0 fun v5 =>
      zck h4 9 v5 (zb (f_X8_addClause n v5 0 h4) fun _ h7 =>
      zck h7 6 a0 (zb (f_X5_wholeSum n a0 1 h7) fun r8 h9 =>
      zrZ r8 h9)))
  else
    zgR h2 6 a0 0 fun v12 =>
    zck h2 9 v12 (zb (f_X8_addClause n v12 1 h2) fun _ h14 =>
    some (1, h14)))
def fb_X5_plain_161 (n : Nat) (kH : Nat → Int32 → zH → Option (Int32 × zH)) (l0 : Nat) (l2 : Int32) (h : zH) : Option (Int32 × zH) :=
  if l2 = 0 then
    some (1, h)
  else
    zgR h 6 l0 0 fun v1 =>
    zck h 9 v1 (zb (f_X8_addStep n v1 2 0 h) fun r2 h3 =>
    some (1, h3))
def fb_X5_plain_131 (n : Nat) (kH : Nat → Int32 → zH → Option (Int32 × zH)) (l0 : Nat) (l1 : Int32) (l2 : Int32) (l3 : Int32) (h : zH) : Option (Int32 × zH) :=
  zgI h 6 l0 2 fun v1 =>
  zpI h 6 l0 2 (v1 + 1) fun h2 =>
  zck h2 6 l0 (zb (f_X5_sum n 12 l0 l1 h2) fun r3 h4 =>
  if r3 = 0 then
    some (0, h4)
  else
    zgR h4 6 l0 0 fun v5 =>
    zck h4 9 v5 (zb (f_X8_addStep n v5 l3 0 h4) fun r6 h7 =>
    fb_X5_plain_161 n kH l0 l2 h7))
def fb_X5_plain_37 (n : Nat) (kH : Nat → Int32 → zH → Option (Int32 × zH)) (l0 : Nat) (l1 : Int32) (l2 : Int32) (h : zH) : Option (Int32 × zH) :=
  zck h 6 l0 (zb (f_X5_present n l0 h) fun r1 h2 =>
  if r1 = 40 then
    if l1 < 8 then
      zgI h2 6 l0 2 fun v9 =>
      zpI h2 6 l0 2 (v9 + 1) fun h10 =>
      zck h10 6 l0 (zb (kH l0 (l1 + 1) h10) fun r11 h12 =>
      if r11 = 0 then
        some (0, h12)
      else
        zck h12 6 l0 (zb (f_X5_takes n l0 41 h12) fun r13 h14 =>
        if r13 = 0 then
          zck h14 6 l0 (zb (f_X5_fails n l0 h14) fun r15 h16 =>
          zrZ r15 h16)
        else
          fb_X5_plain_161 n kH l0 l2 h14))
    else
      zck h2 6 l0 (zb (f_X5_fails n l0 h2) fun r17 h18 =>
      zrZ r17 h18)
  else
    zck h2 6 l0 (zb (f_X5_sum n 12 l0 l1 h2) fun r3 h4 =>
    if r3 = 0 then
      some (0, h4)
    else
      zck h4 6 l0 (zb (f_X5_present n l0 h4) fun r5 h6 =>
      if r5 = 60 then
        fb_X5_plain_131 n kH l0 l1 l2 r5 h6
      else
        if r5 = 62 then
          fb_X5_plain_131 n kH l0 l1 l2 r5 h6
        else
          if r5 = 61 then
            fb_X5_plain_131 n kH l0 l1 l2 r5 h6
          else
            zck h6 6 l0 (zb (f_X5_fails n l0 h6) fun r7 h8 =>
            zrZ r7 h8))))
def fb_X5_plain_30 (n : Nat) (kH : Nat → Int32 → zH → Option (Int32 × zH)) (k4 : Nat → Int32 → Int32 → Int32 → zH → Option (Int32 × zH)) (l0 : Nat) (l1 : Int32) (l3 : Int32) (s0 : Int32) (h : zH) : Option (Int32 × zH) :=
  k4 l0 l1 s0 (l3 + 1) h
def fb_X5_plain_4 (n : Nat) (kH : Nat → Int32 → zH → Option (Int32 × zH)) (k4 : Nat → Int32 → Int32 → Int32 → zH → Option (Int32 × zH)) (l0 : Nat) (l1 : Int32) (l2 : Int32) (l3 : Int32) (h : zH) : Option (Int32 × zH) :=
  if 400 ≤ l3 then
    fb_X5_plain_37 n kH l0 l1 l2 h
  else
    zck h 6 l0 (zb (f_X5_takes n l0 259 h) fun r1 h2 =>
    if r1 = 0 then
      fb_X5_plain_37 n kH l0 l1 l2 h2
    else
      if l2 = 0 then
        fb_X5_plain_30 n kH k4 l0 l1 l3 1 h2
      else
        fb_X5_plain_30 n kH k4 l0 l1 l3 0 h2)
def f_X5_plain (n : Nat) (kH : Nat → Int32 → zH → Option (Int32 × zH)) (a0 : Nat) (a1 : Int32) (h : zH) : Option (Int32 × zH) :=
  zlp4 (fb_X5_plain_4 n kH ) n a0 a1 0 0 h
def f_X8_landHere (n : Nat) (a0 : Nat) (a1 : Int32) (h : zH) : Option (Unit × zH) :=
  if a1 < 0 then
    some ((), h)
  else
    zgR h 9 a0 1 fun v1 =>
    zln' h 21 v1 fun v2 =>
    if v2 ≤ a1 then
      some ((), h)
    else
      zgR h 9 a0 1 fun v3 =>
      zgI h 9 a0 3 fun v4 =>
      zeI h v3 a1 v4 fun h5 =>
      some ((), h5)
def fb_X5_test_110 (n : Nat) (kH : Nat → Int32 → zH → Option (Int32 × zH)) (l0 : Nat) (h : zH) : Option (Int32 × zH) :=
  zck h 6 l0 (zb (f_X5_fails n l0 h) fun r1 h2 =>
  zrZ r1 h2)
def fb_X5_test_74 (n : Nat) (kH : Nat → Int32 → zH → Option (Int32 × zH)) (k4 : Nat → Int32 → Int32 → Int32 → zH → Option (Int32 × zH)) (l0 : Nat) (l1 : Int32) (l2 : Int32) (l3 : Int32) (h : zH) : Option (Int32 × zH) :=
  zgR h 6 l0 0 fun v1 =>
  zck h 9 v1 (zb (f_X8_landHere n v1 l2 h) fun _ h3 =>
  zck h3 6 l0 (zb (f_X5_takes n l0 257 h3) fun r4 h5 =>
  if r4 = 0 then
    some (1, h5)
  else
    zgR h5 6 l0 0 fun v6 =>
    zck h5 9 v6 (zb (f_X8_addStep n v6 3 0 h5) fun r7 h8 =>
    k4 l0 l1 r7 (l3 + 1) h8)))
def fb_X5_test_54 (n : Nat) (kH : Nat → Int32 → zH → Option (Int32 × zH)) (k4 : Nat → Int32 → Int32 → Int32 → zH → Option (Int32 × zH)) (l0 : Nat) (l1 : Int32) (l2 : Int32) (l3 : Int32) (h : zH) : Option (Int32 × zH) :=
  fb_X5_test_74 n kH k4 l0 l1 l2 l3 h
def fb_X5_test_17 (n : Nat) (kH : Nat → Int32 → zH → Option (Int32 × zH)) (k4 : Nat → Int32 → Int32 → Int32 → zH → Option (Int32 × zH)) (k17 : Nat → Int32 → Int32 → Int32 → Int32 → Int32 → zH → Option (Int32 × zH)) (l0 : Nat) (l1 : Int32) (l2 : Int32) (l3 : Int32) (l4 : Int32) (l5 : Int32) (h : zH) : Option (Int32 × zH) :=
  if 400 ≤ l5 then
    fb_X5_test_74 n kH k4 l0 l1 l2 l3 h
  else
    zck h 6 l0 (zb (f_X5_plain n kH l0 l1 h) fun r1 h2 =>
    if r1 = 0 then
      some (0, h2)
    else
      zgR h2 6 l0 0 fun v3 =>
      zck h2 9 v3 (zb (f_X8_landHere n v3 l4 h2) fun _ h5 =>
      zck h5 6 l0 (zb (f_X5_takes n l0 258 h5) fun r6 h7 =>
      if r6 = 0 then
        fb_X5_test_54 n kH k4 l0 l1 l2 l3 h7
      else
        zgR h7 6 l0 0 fun v8 =>
        zck h7 9 v8 (zb (f_X8_addStep n v8 4 0 h7) fun r9 h10 =>
        k17 l0 l1 l2 l3 r9 (l5 + 1) h10))))
def fb_X5_test_4 (n : Nat) (kH : Nat → Int32 → zH → Option (Int32 × zH)) (k4 : Nat → Int32 → Int32 → Int32 → zH → Option (Int32 × zH)) (l0 : Nat) (l1 : Int32) (l2 : Int32) (l3 : Int32) (h : zH) : Option (Int32 × zH) :=
  if 400 ≤ l3 then
    fb_X5_test_110 n kH l0 h
  else
    zlp6 (fb_X5_test_17 n kH k4 ) n l0 l1 l2 l3 (-1) 0 h
def fB_X5_test (n : Nat) (kH : Nat → Int32 → zH → Option (Int32 × zH)) (a0 : Nat) (a1 : Int32) (h : zH) : Option (Int32 × zH) :=
  zlp4 (fb_X5_test_4 n kH ) n a0 a1 (-1) 0 h
def f_X5_test (n : Nat) : Nat → Nat → Int32 → zH → Option (Int32 × zH) := zlp2 (fB_X5_test n)
def fb_X5_reads_136 (n : Nat) (l0 : Nat) (h : zH) : Option (Int32 × zH) :=
  zck h 6 l0 (zb (f_X5_fails n l0 h) fun r1 h2 =>
  zrZ r1 h2)
def fb_X5_reads_125 (n : Nat) (l0 : Nat) (h : zH) : Option (Int32 × zH) :=
  zck h 6 l0 (zb (f_X5_fails n l0 h) fun r1 h2 =>
  zrZ r1 h2)
def fb_X5_reads_107 (n : Nat) (k33 : Nat → Int32 → Int32 → zH → Option (Int32 × zH)) (l0 : Nat) (l2 : Int32) (l3 : Int32) (h : zH) : Option (Int32 × zH) :=
  zck h 6 l0 (zb (f_X5_present n l0 h) fun r1 h2 =>
  if r1 = 0 then
    some (1, h2)
  else
    zck h2 6 l0 (zb (f_X5_takes n l0 59 h2) fun r3 h4 =>
    if r3 = 0 then
      fb_X5_reads_125 n l0 h4
    else
      k33 l0 l2 (l3 + 1) h4))
def fb_X5_reads_62 (n : Nat) (k33 : Nat → Int32 → Int32 → zH → Option (Int32 × zH)) (l0 : Nat) (l2 : Int32) (l3 : Int32) (h : zH) : Option (Int32 × zH) :=
  zck h 6 l0 (zb (f_X5_takes n l0 256 h) fun r1 h2 =>
  if r1 = 0 then
    fb_X5_reads_107 n k33 l0 l2 l3 h2
  else
    zgR h2 6 l0 0 fun v3 =>
    zgR h2 6 l0 0 fun v4 =>
    zgI h2 9 v4 3 fun v5 =>
    zck h2 9 v3 (zb (f_X8_setEntry n v3 4 v5 h2) fun _ h7 =>
    zck h7 6 l0 (zb (f_X5_test n 12 l0 0 h7) fun r8 h9 =>
    if r8 = 0 then
      some (0, h9)
    else
      zgR h9 6 l0 0 fun v10 =>
      zck h9 9 v10 (zb (f_X8_addStep n v10 5 0 h9) fun r11 h12 =>
      fb_X5_reads_107 n k33 l0 l2 l3 h12))))
def fb_X5_reads_33 (n : Nat) (k33 : Nat → Int32 → Int32 → zH → Option (Int32 × zH)) (l0 : Nat) (l2 : Int32) (l3 : Int32) (h : zH) : Option (Int32 × zH) :=
  if 12 ≤ l3 then
    fb_X5_reads_136 n l0 h
  else
    if l2 = 0 then
      zck h 6 l0 (zb (f_X5_lawClause n l0 h) fun r1 h2 =>
      if r1 = 0 then
        some (0, h2)
      else
        fb_X5_reads_62 n k33 l0 l2 l3 h2)
    else
      zck h 6 l0 (zb (f_X5_orderClause n l0 h) fun r3 h4 =>
      if r3 = 0 then
        some (0, h4)
      else
        fb_X5_reads_62 n k33 l0 l2 l3 h4)
def f_X5_reads (n : Nat) (a0 : Nat) (a1 : Nat) (a2 : Int32) (h : zH) : Option (Int32 × zH) :=
  zgR h 6 a0 1 fun v1 =>
  zck h 10 v1 (zb (f_X9_split n v1 a1 a2 h) fun _ h3 =>
  zgR h3 6 a0 0 fun v4 =>
  zck h3 9 v4 (zb (f_X8_clear n v4 h3) fun _ h6 =>
  zpI h6 6 a0 2 0 fun h7 =>
  zpI h7 6 a0 3 0 fun h8 =>
  zpI h8 6 a0 4 (-1) fun h9 =>
  zlp3 (fb_X5_reads_33 n ) n a0 a2 0 h9))
def f_X8_cutToSize (n : Nat) (a0 : Nat) (h : zH) : Option (Nat × zH) :=
  znO h 9 5 fun r1 h2 =>
  zgI h2 9 a0 3 fun v3 =>
  zgI h2 9 a0 4 fun v4 =>
  zb (f_X8_init n r1 v3 v4 h2) fun _ h6 =>
  zgR h6 9 a0 0 fun v7 =>
  zgR h6 9 r1 0 fun v8 =>
  zgI h6 9 a0 3 fun v9 =>
  zcp h6 v7 0 v8 0 v9 fun h10 =>
  zgR h10 9 a0 1 fun v11 =>
  zgR h10 9 r1 1 fun v12 =>
  zgI h10 9 a0 3 fun v13 =>
  zcp h10 v11 0 v12 0 v13 fun h14 =>
  zgR h14 9 a0 2 fun v15 =>
  zgR h14 9 r1 2 fun v16 =>
  zgI h14 9 a0 4 fun v17 =>
  zcp h14 v15 0 v16 0 ((5 : Int32) * v17) fun h18 =>
  zgI h18 9 a0 3 fun v19 =>
  zpI h18 9 r1 3 v19 fun h20 =>
  zgI h20 9 a0 4 fun v21 =>
  zpI h20 9 r1 4 v21 fun h22 =>
  some (r1, h22)
def f_X6_addLaw (n : Nat) (a0 : Nat) (a1 : Nat) (h : zH) : Option (Int32 × zH) :=
  zgI h 7 a0 2 fun v1 =>
  if v1 < 6 then
    zgR h 7 a0 1 fun v2 =>
    zgI h 7 a0 2 fun v3 =>
    zeQ h 25 9 v2 v3 a1 fun h4 =>
    zgI h4 7 a0 2 fun v5 =>
    zpI h4 7 a0 2 (v5 + 1) fun h6 =>
    zgI h6 7 a0 2 fun v7 =>
    some (v7 - 1, h6)
  else
    some ((-5), h)
def f_X11_law (n : Nat) (a0 : Nat) (h : zH) : Option (Int32 × zH) :=
  zgR h 12 a0 3 fun v1 =>
  zgI h 7 v1 2 fun v2 =>
  if v2 < 6 then
    zgR h 12 a0 10 fun v3 =>
    zgR h 12 a0 9 fun v4 =>
    zck h 6 v3 (zb (f_X5_reads n v3 v4 0 h) fun r5 h6 =>
    zgR h6 12 a0 9 fun v7 =>
    zpI h6 8 v7 1 0 fun h8 =>
    zgR h8 12 a0 10 fun v9 =>
    zgI h8 6 v9 4 fun v10 =>
    zpI h8 12 a0 15 v10 fun h11 =>
    if r5 = 0 then
      zck h11 12 a0 (zb (f_X11_told n a0 (-6) h11) fun r21 h22 =>
      some (r21, h22))
    else
      zgR h11 12 a0 3 fun v12 =>
      zgR h11 12 a0 10 fun v13 =>
      zgR h11 6 v13 0 fun v14 =>
      zck h11 9 v14 (zb (f_X8_cutToSize n v14 h11) fun r15 h16 =>
      zck h16 7 v12 (zb (f_X6_addLaw n v12 r15 h16) fun r17 h18 =>
      zck h18 12 a0 (zb (f_X11_told n a0 r17 h18) fun r19 h20 =>
      some (r19, h20)))))
  else
    zgR h 12 a0 9 fun v23 =>
    zpI h 8 v23 1 0 fun h24 =>
    zck h24 12 a0 (zb (f_X11_told n a0 (-5) h24) fun r25 h26 =>
    some (r25, h26))
def f_X0_copyFrom (n : Nat) (a0 : Nat) (a1 : Nat) (h : zH) : Option (Unit × zH) :=
  zgR h 1 a1 0 fun v1 =>
  zgR h 1 a0 0 fun v2 =>
  zcp h v1 0 v2 0 24 fun h3 =>
  zgR h3 1 a1 1 fun v4 =>
  zgR h3 1 a0 1 fun v5 =>
  zcp h3 v4 0 v5 0 24 fun h6 =>
  zgR h6 1 a1 2 fun v7 =>
  zgR h6 1 a0 2 fun v8 =>
  zcp h6 v7 0 v8 0 24 fun h9 =>
  zgR h9 1 a1 3 fun v10 =>
  zgR h9 1 a0 3 fun v11 =>
  zcp h9 v10 0 v11 0 24 fun h12 =>
  zgR h12 1 a1 4 fun v13 =>
  zgR h12 1 a0 4 fun v14 =>
  zcp h12 v13 0 v14 0 24 fun h15 =>
  zgR h15 1 a1 5 fun v16 =>
  zgR h15 1 a0 5 fun v17 =>
  zcp h15 v16 0 v17 0 24 fun h18 =>
  zgI h18 1 a1 6 fun v19 =>
  zpI h18 1 a0 6 v19 fun h20 =>
  zgI h20 1 a1 7 fun v21 =>
  zpI h20 1 a0 7 v21 fun h22 =>
  zgI h22 1 a1 8 fun v23 =>
  zpI h22 1 a0 8 v23 fun h24 =>
  some ((), h24)
def f_X10_copyFrom (n : Nat) (a0 : Nat) (a1 : Nat) (h : zH) : Option (Unit × zH) :=
  zgR h 11 a0 0 fun v1 =>
  zgR h 11 a1 0 fun v2 =>
  zck h 1 v1 (zb (f_X0_copyFrom n v1 v2 h) fun _ h4 =>
  zgR h4 11 a1 1 fun v5 =>
  zgR h4 11 a0 1 fun v6 =>
  zcp h4 v5 0 v6 0 8 fun h7 =>
  zgR h7 11 a1 2 fun v8 =>
  zgR h7 11 a0 2 fun v9 =>
  zcp h7 v8 0 v9 0 8 fun h10 =>
  zgI h10 11 a1 3 fun v11 =>
  zpI h10 11 a0 3 v11 fun h12 =>
  zgI h12 11 a1 4 fun v13 =>
  zpI h12 11 a0 4 v13 fun h14 =>
  zgI h14 11 a1 5 fun v15 =>
  zpI h14 11 a0 5 v15 fun h16 =>
  zgI h16 11 a1 6 fun v17 =>
  zpZ h16 11 a0 6 v17 fun h18 =>
  zgI h18 11 a1 7 fun v19 =>
  zpI h18 11 a0 7 v19 fun h20 =>
  zgI h20 11 a1 8 fun v21 =>
  zpI h20 11 a0 8 v21 fun h22 =>
  zgI h22 11 a1 9 fun v23 =>
  zpI h22 11 a0 9 v23 fun h24 =>
  some ((), h24))
def f_J9_floorMod_7cf53 (n : Nat) (a0 : Int32) (a1 : Int32) (h : zH) : Option (Int32 × zH) :=
  if a1 = 0 then none else
  zlt (a0 - a0 / a1 * a1) fun x1 =>
  if 0 ≤ a0 ^^^ a1 then
    some (x1, h)
  else
    if x1 = 0 then
      some (x1, h)
    else
      some (x1 + a1, h)
def f_X2_slotOf (n : Nat) (a0 : Nat) (a1 : Int32) (h : zH) : Option (Int32 × zH) :=
  zgI h 3 a0 2 fun v1 =>
  zb (f_J9_floorMod_7cf53 n (v1 + a1) 17 h) fun r2 h3 =>
  some (r2, h3)
def fb_X2_copyFrom_18 (n : Nat) (k18 : Nat → Nat → Int32 → zH → Option (Unit × zH)) (l0 : Nat) (l1 : Nat) (l2 : Int32) (h : zH) : Option (Unit × zH) :=
  zgI h 3 l0 3 fun v1 =>
  if v1 ≤ l2 then
    some ((), h)
  else
    zck h 3 l0 (zb (f_X2_slotOf n l0 l2 h) fun r2 h3 =>
    zgR h3 3 l0 0 fun v4 =>
    zaN h3 26 v4 r2 fun v5 =>
    zgR h3 3 l1 0 fun v6 =>
    zaN h3 26 v6 r2 fun v7 =>
    zck h3 11 v5 (zb (f_X10_copyFrom n v5 v7 h3) fun _ h9 =>
    zgR h9 3 l0 1 fun v10 =>
    zgR h9 3 l1 1 fun v11 =>
    zaI h9 21 v11 r2 fun v12 =>
    zeI h9 v10 r2 v12 fun h13 =>
    k18 l0 l1 (l2 + 1) h13))
def f_X2_copyFrom (n : Nat) (a0 : Nat) (a1 : Nat) (h : zH) : Option (Unit × zH) :=
  zgI h 3 a1 2 fun v1 =>
  zpI h 3 a0 2 v1 fun h2 =>
  zgI h2 3 a1 3 fun v3 =>
  zpI h2 3 a0 3 v3 fun h4 =>
  zlp3 (fb_X2_copyFrom_18 n ) n a0 a1 0 h4
def fb_X0_tellValues_92 (n : Nat) (k42 : Nat → Nat → Int32 → Int32 → Int32 → zH → Option (Unit × zH)) (l0 : Nat) (l1 : Nat) (l2 : Int32) (l3 : Int32) (l4 : Int32) (h : zH) : Option (Unit × zH) :=
  zgR h 1 l0 3 fun v1 =>
  zaI h 21 v1 l3 fun v2 =>
  k42 l0 l1 l2 v2 (l4 + 1) h
def fb_X0_tellValues_42 (n : Nat) (k42 : Nat → Nat → Int32 → Int32 → Int32 → zH → Option (Unit × zH)) (l0 : Nat) (l1 : Nat) (l2 : Int32) (l3 : Int32) (l4 : Int32) (h : zH) : Option (Unit × zH) :=
  if 24 ≤ l4 then
    some ((), h)
  else
    zb (f_X11_isCell n l3 h) fun r1 h2 =>
    if r1 = 0 then
      some ((), h2)
    else
      zgR h2 1 l0 1 fun v3 =>
      zaI h2 21 v3 l3 fun v4 =>
      if v4 < 0 then
        fb_X0_tellValues_92 n k42 l0 l1 l2 l3 l4 h2
      else
        zgR h2 1 l0 1 fun v5 =>
        zaI h2 21 v5 l3 fun v6 =>
        if 100 ≤ v6 then
          fb_X0_tellValues_92 n k42 l0 l1 l2 l3 l4 h2
        else
          zgR h2 1 l0 1 fun v7 =>
          zaI h2 21 v7 l3 fun v8 =>
          zgR h2 1 l0 2 fun v9 =>
          zaI h2 21 v9 l3 fun v10 =>
          zeI h2 l1 (l2 + v8) v10 fun h11 =>
          fb_X0_tellValues_92 n k42 l0 l1 l2 l3 l4 h11
def fb_X0_tellValues_34 (n : Nat) (l0 : Nat) (l1 : Nat) (l2 : Int32) (h : zH) : Option (Unit × zH) :=
  zgI h 1 l0 6 fun v1 =>
  zlp5 (fb_X0_tellValues_42 n ) n l0 l1 l2 v1 0 h
def fb_X0_tellValues_16 (n : Nat) (k16 : Nat → Nat → Int32 → Int32 → zH → Option (Unit × zH)) (l0 : Nat) (l1 : Nat) (l2 : Int32) (l3 : Int32) (h : zH) : Option (Unit × zH) :=
  if 100 ≤ l3 then
    fb_X0_tellValues_34 n l0 l1 l2 h
  else
    zeI h l1 (l2 + l3) (-1) fun h1 =>
    k16 l0 l1 l2 (l3 + 1) h1
def f_X0_tellValues (n : Nat) (a0 : Nat) (a1 : Nat) (a2 : Int32) (h : zH) : Option (Unit × zH) :=
  if a2 < 0 then
    some ((), h)
  else
    zln' h 21 a1 fun v1 =>
    if a2 + 100 ≤ v1 then
      zlp4 (fb_X0_tellValues_16 n ) n a0 a1 a2 0 h
    else
      some ((), h)
def fb_X11_tellOrderWords_82 (n : Nat) (l0 : Nat) (l1 : Nat) (h : zH) : Option (Unit × zH) :=
  zgR h 12 l0 0 fun v1 =>
  zgR h 11 v1 0 fun v2 =>
  zck h 1 v2 (zb (f_X0_tellValues n v2 l1 13 h) fun _ h4 =>
  some ((), h4))
def fb_X11_tellOrderWords_57 (n : Nat) (k57 : Nat → Nat → Int32 → zH → Option (Unit × zH)) (l0 : Nat) (l1 : Nat) (l2 : Int32) (h : zH) : Option (Unit × zH) :=
  if 8 ≤ l2 then
    fb_X11_tellOrderWords_82 n l0 l1 h
  else
    zgR h 12 l0 0 fun v1 =>
    zck h 11 v1 (zb (f_X10_cellOf n v1 l2 h) fun r2 h3 =>
    zeI h3 l1 ((5 : Int32) + l2) r2 fun h4 =>
    k57 l0 l1 (l2 + 1) h4)
def f_X11_tellOrderWords (n : Nat) (a0 : Nat) (h : zH) : Option (Unit × zH) :=
  zgR h 12 a0 2 fun v1 =>
  zgR h 5 v1 0 fun v2 =>
  zgR h 12 a0 0 fun v3 =>
  zgI h 11 v3 9 fun v4 =>
  zeI h v2 0 v4 fun h5 =>
  zgI h5 12 a0 17 fun v6 =>
  zeI h5 v2 1 v6 fun h7 =>
  zgI h7 12 a0 18 fun v8 =>
  zeI h7 v2 2 v8 fun h9 =>
  zgR h9 12 a0 0 fun v10 =>
  zgR h9 11 v10 0 fun v11 =>
  zgI h9 1 v11 7 fun v12 =>
  zeI h9 v2 3 v12 fun h13 =>
  zgR h13 12 a0 0 fun v14 =>
  zgI h13 11 v14 7 fun v15 =>
  zeI h13 v2 4 v15 fun h16 =>
  zlp3 (fb_X11_tellOrderWords_57 n ) n a0 v2 0 h16
def f_X2_prepare (n : Nat) (a0 : Nat) (a1 : Nat) (h : zH) : Option (Unit × zH) :=
  zgR h 3 a0 0 fun v1 =>
  zgI h 3 a0 3 fun v2 =>
  zck h 3 a0 (zb (f_X2_slotOf n a0 v2 h) fun r3 h4 =>
  zaN h4 26 v1 r3 fun v5 =>
  zck h4 11 v5 (zb (f_X10_copyFrom n v5 a1 h4) fun _ h7 =>
  some ((), h7)))
def fb_X0_waitingBecomeCurrent_34 (n : Nat) (l0 : Nat) (h : zH) : Option (Unit × zH) :=
  zgI h 1 l0 7 fun v1 =>
  zpI h 1 l0 8 v1 fun h2 =>
  zpI h2 1 l0 7 0 fun h3 =>
  some ((), h3)
def fb_X0_waitingBecomeCurrent_2 (n : Nat) (k2 : Nat → Int32 → zH → Option (Unit × zH)) (l0 : Nat) (l1 : Int32) (h : zH) : Option (Unit × zH) :=
  zgI h 1 l0 7 fun v1 =>
  if v1 ≤ l1 then
    fb_X0_waitingBecomeCurrent_34 n l0 h
  else
    if 24 ≤ l1 then
      fb_X0_waitingBecomeCurrent_34 n l0 h
    else
      zgR h 1 l0 5 fun v2 =>
      zgR h 1 l0 4 fun v3 =>
      zaI h 21 v3 l1 fun v4 =>
      zeI h v2 l1 v4 fun h5 =>
      k2 l0 (l1 + 1) h5
def f_X0_waitingBecomeCurrent (n : Nat) (a0 : Nat) (h : zH) : Option (Unit × zH) :=
  zlp2 (fb_X0_waitingBecomeCurrent_2 n ) n a0 0 h
def f_X10_startGrace (n : Nat) (a0 : Nat) (h : zH) : Option (Int32 × zH) :=
  zgI h 11 a0 6 fun v1 =>
  if v1 = 0 then
    zgR h 11 a0 0 fun v2 =>
    zgI h 1 v2 7 fun v3 =>
    if v3 = 0 then
      some ((-3), h)
    else
      zpZ h 11 a0 6 1 fun h4 =>
      zgI h4 11 a0 7 fun v5 =>
      zpI h4 11 a0 7 (v5 + 1) fun h6 =>
      zgR h6 11 a0 0 fun v7 =>
      zck h6 1 v7 (zb (f_X0_waitingBecomeCurrent n v7 h6) fun _ h9 =>
      zgR h9 11 a0 2 fun v10 =>
      zb (f_J7_fill_53178 n v10 3 h9) fun _ h12 =>
      zgI h12 11 a0 4 fun v13 =>
      zpI h12 11 a0 5 v13 fun h14 =>
      zgI h14 11 a0 7 fun v15 =>
      some (v15, h14))
  else
    some ((-3), h)
def f_X10_leafOf (n : Nat) (a0 : Int32) (h : zH) : Option (Int32 × zH) :=
  some ((4 : Int32) + (a0 / 2), h)
def f_J9_min_f86c9 (n : Nat) (a0 : Int64) (a1 : Int64) (h : zH) : Option (Int64 × zH) :=
  if 0 < lg_cmp a0 a1 then
    some (a1, h)
  else
    some (a0, h)
def f_J9_max_f86c9 (n : Nat) (a0 : Int64) (a1 : Int64) (h : zH) : Option (Int64 × zH) :=
  if lg_cmp a0 a1 < 0 then
    some (a1, h)
  else
    some (a0, h)
def fb_X6_costOf_147 (n : Nat) (k61 : Nat → Nat → Int32 → zH → Option (Int32 × zH)) (l0 : Nat) (l1 : Nat) (l6 : Int32) (h : zH) : Option (Int32 × zH) :=
  k61 l0 l1 (l6 + (-1)) h
def fb_X6_costOf_124 (n : Nat) (l0 : Nat) (h : zH) : Option (Int32 × zH) :=
  zgR h 7 l0 0 fun v1 =>
  zgL h 5 v1 2 fun v2 =>
  zb (f_J9_min_f86c9 n 99 v2 h) fun r3 h4 =>
  zb (f_J9_max_f86c9 n 0 r3 h4) fun r5 h6 =>
  some (Int64.toInt32 r5, h6)
def fb_X6_costOf_61 (n : Nat) (k61 : Nat → Nat → Int32 → zH → Option (Int32 × zH)) (l0 : Nat) (l1 : Nat) (l6 : Int32) (h : zH) : Option (Int32 × zH) :=
  if l6 < 0 then
    some (1, h)
  else
    zck h 9 l1 (zb (f_X8_entry n l1 l6 0 h) fun r1 h2 =>
    if r1 = 0 then
      zgR h2 7 l0 0 fun v3 =>
      zck h2 9 l1 (zb (f_X8_entry n l1 l6 4 h2) fun r4 h5 =>
      zck h5 5 v3 (zb (f_X4_runs n v3 l1 r4 h5) fun r6 h7 =>
      if r6 = 0 then
        fb_X6_costOf_147 n k61 l0 l1 l6 h7
      else
        zgR h7 7 l0 0 fun v8 =>
        zgL h7 5 v8 2 fun v9 =>
        if lg_cmp v9 0 = 0 then
          fb_X6_costOf_147 n k61 l0 l1 l6 h7
        else
          zgR h7 7 l0 0 fun v10 =>
          zck h7 9 l1 (zb (f_X8_entry n l1 l6 1 h7) fun r11 h12 =>
          zck h12 5 v10 (zb (f_X4_runs n v10 l1 r11 h12) fun r13 h14 =>
          if r13 = 0 then
            fb_X6_costOf_147 n k61 l0 l1 l6 h14
          else
            fb_X6_costOf_124 n l0 h14))))
    else
      fb_X6_costOf_147 n k61 l0 l1 l6 h2)
def fb_X6_costOf_25 (n : Nat) (l0 : Nat) (l1 : Nat) (l2 : Int32) (l3 : Int32) (l4 : Nat) (s0 : Int32) (h : zH) : Option (Int32 × zH) :=
  zgR h 11 l4 0 fun v1 =>
  zgI h 1 v1 8 fun v2 =>
  zck h 7 l0 (zb (f_X6_tellWhere n l0 l2 s0 l3 v2 h) fun _ h4 =>
  zgI h4 11 l4 9 fun v5 =>
  zck h4 7 l0 (zb (f_X6_tellWhat n l0 (-1) v5 h4) fun _ h7 =>
  zgI h7 9 l1 4 fun v8 =>
  zlt (v8 - 1) fun x9 =>
  zlp3 (fb_X6_costOf_61 n ) n l0 l1 x9 h7))
def f_X6_costOf (n : Nat) (a0 : Nat) (a1 : Nat) (a2 : Int32) (a3 : Int32) (a4 : Nat) (h : zH) : Option (Int32 × zH) :=
  if a1 = 0 then
    some (1, h)
  else
    if a2 = 1 then
      fb_X6_costOf_25 n a0 a1 a2 a3 a4 0 h
    else
      if 4 ≤ a2 then
        fb_X6_costOf_25 n a0 a1 a2 a3 a4 2 h
      else
        fb_X6_costOf_25 n a0 a1 a2 a3 a4 1 h
def f_X10_processorsOf (n : Nat) (a0 : Int32) (h : zH) : Option (Int32 × zH) :=
  some ((3 : Int32) <<< (((2 : Int32) * (a0 - 4)) &&& 31), h)
def fb_X10_isQuiet_22 (n : Nat) (l0 : Nat) (l1 : Int32) (s0 : Int32) (h : zH) : Option (Int32 × zH) :=
  zgR h 11 l0 2 fun v1 =>
  zaI h 21 v1 l1 fun v2 =>
  if v2 = 0 then
    if s0 = 0 then
      some (1, h)
    else
      some (0, h)
  else
    some (0, h)
def fb_X10_isQuiet_21 (n : Nat) (l0 : Nat) (l1 : Int32) (h : zH) : Option (Int32 × zH) :=
  fb_X10_isQuiet_22 n l0 l1 0 h
def f_X10_isQuiet (n : Nat) (a0 : Nat) (a1 : Int32) (h : zH) : Option (Int32 × zH) :=
  if a1 < 4 then
    fb_X10_isQuiet_21 n a0 a1 h
  else
    zgI h 11 a0 5 fun v1 =>
    zb (f_X10_processorsOf n a1 h) fun r2 h3 =>
    if v1 &&& r2 = 0 then
      fb_X10_isQuiet_21 n a0 a1 h3
    else
      fb_X10_isQuiet_22 n a0 a1 1 h3
def fb_X0_freeCurrent_42 (n : Nat) (k7 : Nat → Int32 → Int32 → zH → Option (Int32 × zH)) (l0 : Nat) (l1 : Int32) (l2 : Int32) (h : zH) : Option (Int32 × zH) :=
  k7 l0 l1 (l2 + 1) h
def fb_X0_freeCurrent_7 (n : Nat) (k7 : Nat → Int32 → Int32 → zH → Option (Int32 × zH)) (l0 : Nat) (l1 : Int32) (l2 : Int32) (h : zH) : Option (Int32 × zH) :=
  if l1 ≤ l2 then
    zpI h 1 l0 8 0 fun h1 =>
    some (l1, h1)
  else
    if 24 ≤ l2 then
      zpI h 1 l0 8 0 fun h2 =>
      some (l1, h2)
    else
      zgR h 1 l0 5 fun v3 =>
      zaI h 21 v3 l2 fun v4 =>
      zb (f_X11_isCell n v4 h) fun r5 h6 =>
      if r5 = 0 then
        fb_X0_freeCurrent_42 n k7 l0 l1 l2 h6
      else
        zgR h6 1 l0 0 fun v7 =>
        zgR h6 1 l0 5 fun v8 =>
        zaI h6 21 v8 l2 fun v9 =>
        zeI h6 v7 v9 0 fun h10 =>
        fb_X0_freeCurrent_42 n k7 l0 l1 l2 h10
def f_X0_freeCurrent (n : Nat) (a0 : Nat) (h : zH) : Option (Int32 × zH) :=
  zgI h 1 a0 8 fun v1 =>
  zlp3 (fb_X0_freeCurrent_7 n ) n a0 v1 0 h
def f_X10_endGrace (n : Nat) (a0 : Nat) (h : zH) : Option (Int32 × zH) :=
  zgR h 11 a0 0 fun v1 =>
  zck h 1 v1 (zb (f_X0_freeCurrent n v1 h) fun r2 h3 =>
  zpZ h3 11 a0 6 0 fun h4 =>
  zpI h4 11 a0 5 0 fun h5 =>
  zgI h5 11 a0 9 fun v6 =>
  zb (f_J9_min_7cf53 n (v6 + 1) 999 h5) fun r7 h8 =>
  zpI h8 11 a0 9 r7 fun h9 =>
  zck h9 11 a0 (zb (f_X10_startGrace n a0 h9) fun r10 h11 =>
  some (r2, h11)))
def fb_X10_report_87 (n : Nat) (l0 : Nat) (h : zH) : Option (Int32 × zH) :=
  zck h 11 l0 (zb (f_X10_endGrace n l0 h) fun r1 h2 =>
  some (r1, h2))
def fb_X10_report_6 (n : Nat) (k6 : Nat → Nat → Int32 → Int32 → zH → Option (Int32 × zH)) (l0 : Nat) (l3 : Nat) (l4 : Int32) (l5 : Int32) (h : zH) : Option (Int32 × zH) :=
  if l5 < 1 then
    fb_X10_report_87 n l0 h
  else
    if 8 ≤ l5 then
      fb_X10_report_87 n l0 h
    else
      zgI h 11 l0 8 fun v1 =>
      zgI h 7 l3 3 fun v2 =>
      zck h 7 l3 (zb (f_X6_lawAt n l3 v2 h) fun r3 h4 =>
      zck h4 7 l3 (zb (f_X6_costOf n l3 r3 l5 l4 l0 h4) fun r5 h6 =>
      zpI h6 11 l0 8 (v1 + r5) fun h7 =>
      zgR h7 11 l0 2 fun v8 =>
      zaI h7 21 v8 l5 fun v9 =>
      zeI h7 v8 l5 (v9 &&& (((1 : Int32) <<< (l4 &&& 31)) ^^^ (-1))) fun h10 =>
      zck h10 11 l0 (zb (f_X10_isQuiet n l0 l5 h10) fun r11 h12 =>
      if r11 = 0 then
        some (0, h12)
      else
        zlt (l5 &&& 1) fun x13 =>
        zlt (l5 / 2) fun x14 =>
        k6 l0 l3 x13 x14 h12)))
def f_X10_report (n : Nat) (a0 : Nat) (a1 : Int32) (a2 : Int32) (a3 : Nat) (h : zH) : Option (Int32 × zH) :=
  zlp4 (fb_X10_report_6 n ) n a0 a3 a2 a1 h
def f_X10_beQuiet (n : Nat) (a0 : Nat) (a1 : Int32) (a2 : Nat) (h : zH) : Option (Int32 × zH) :=
  zb (f_X11_isProcessor n a1 h) fun r1 h2 =>
  if r1 = 0 then
    some ((-1), h2)
  else
    zlt ((1 : Int32) <<< (a1 &&& 31)) fun x3 =>
    zgI h2 11 a0 3 fun v4 =>
    zgI h2 11 a0 4 fun v5 =>
    if (v4 &&& (v5 ^^^ (-1))) &&& x3 = 0 then
      zck h2 11 a0 (zb (f_X10_unreported n a0 h2) fun r6 h7 =>
      if r6 &&& x3 = 0 then
        some (0, h7)
      else
        zb (f_X10_leafOf n a1 h7) fun r8 h9 =>
        zck h9 11 a0 (zb (f_X10_report n a0 r8 (a1 &&& 1) a2 h9) fun r10 h11 =>
        some (r10, h11)))
    else
      some ((-3), h2)
def fb_X10_goOut_39 (n : Nat) (l0 : Nat) (l1 : Int32) (l2 : Nat) (l3 : Int32) (s0 : Int32) (h : zH) : Option (Int32 × zH) :=
  zgI h 11 l0 3 fun v1 =>
  zpI h 11 l0 3 (v1 &&& (l3 ^^^ (-1))) fun h2 =>
  zgI h2 11 l0 4 fun v3 =>
  zpI h2 11 l0 4 (v3 &&& (l3 ^^^ (-1))) fun h4 =>
  zgI h4 11 l0 5 fun v5 =>
  zpI h4 11 l0 5 (v5 &&& (l3 ^^^ (-1))) fun h6 =>
  zb (f_X10_leafOf n l1 h6) fun r7 h8 =>
  if s0 = 0 then
    some (0, h8)
  else
    zck h8 11 l0 (zb (f_X10_isQuiet n l0 r7 h8) fun r9 h10 =>
    if r9 = 0 then
      some (0, h10)
    else
      zck h10 11 l0 (zb (f_X10_report n l0 (r7 / 2) (r7 &&& 1) l2 h10) fun r11 h12 =>
      some (r11, h12)))
def f_X10_goOut (n : Nat) (a0 : Nat) (a1 : Int32) (a2 : Nat) (h : zH) : Option (Int32 × zH) :=
  zb (f_X11_isProcessor n a1 h) fun r1 h2 =>
  if r1 = 0 then
    some ((-1), h2)
  else
    zlt ((1 : Int32) <<< (a1 &&& 31)) fun x3 =>
    zgI h2 11 a0 3 fun v4 =>
    if v4 &&& x3 = 0 then
      some ((-3), h2)
    else
      zgI h2 11 a0 5 fun v5 =>
      if v5 &&& x3 = 0 then
        fb_X10_goOut_39 n a0 a1 a2 x3 0 h2
      else
        fb_X10_goOut_39 n a0 a1 a2 x3 1 h2
def f_J6_bitCount_0f7a4 (n : Nat) (a0 : Int32) (h : zH) : Option (Int32 × zH) :=
  zlt (a0 - (((Int32.toUInt32 a0 >>> (Int32.toUInt32 1 &&& Int32.toUInt32 31)).toInt32) &&& 1431655765)) fun x1 =>
  zlt ((x1 &&& 858993459) + (((Int32.toUInt32 x1 >>> (Int32.toUInt32 2 &&& Int32.toUInt32 31)).toInt32) &&& 858993459)) fun x2 =>
  zlt ((x2 + ((Int32.toUInt32 x2 >>> (Int32.toUInt32 4 &&& Int32.toUInt32 31)).toInt32)) &&& 252645135) fun x3 =>
  zlt (x3 + ((Int32.toUInt32 x3 >>> (Int32.toUInt32 8 &&& Int32.toUInt32 31)).toInt32)) fun x4 =>
  zlt (x4 + ((Int32.toUInt32 x4 >>> (Int32.toUInt32 16 &&& Int32.toUInt32 31)).toInt32)) fun x5 =>
  some (x5 &&& 63, h)
def f_X10_standStill (n : Nat) (a0 : Nat) (a1 : Int32) (h : zH) : Option (Int32 × zH) :=
  zb (f_X11_isProcessor n a1 h) fun r1 h2 =>
  if r1 = 0 then
    some ((-1), h2)
  else
    zlt ((1 : Int32) <<< (a1 &&& 31)) fun x3 =>
    zgI h2 11 a0 3 fun v4 =>
    if v4 &&& x3 = 0 then
      some ((-3), h2)
    else
      zgI h2 11 a0 4 fun v5 =>
      if v5 &&& x3 = 0 then
        zgI h2 11 a0 4 fun v6 =>
        zpI h2 11 a0 4 (v6 ||| x3) fun h7 =>
        zgI h7 11 a0 5 fun v8 =>
        zck h7 11 a0 (zb (f_X10_unreported n a0 h7) fun r9 h10 =>
        zpI h10 11 a0 5 (v8 ||| (r9 &&& x3)) fun h11 =>
        zgI h11 11 a0 4 fun v12 =>
        zb (f_X10_leafOf n a1 h11) fun r13 h14 =>
        zb (f_X10_processorsOf n r13 h14) fun r15 h16 =>
        zb (f_J6_bitCount_0f7a4 n (v12 &&& r15) h16) fun r17 h18 =>
        some (r17, h18))
      else
        some ((-3), h2)
def f_X10_goOn (n : Nat) (a0 : Nat) (a1 : Int32) (h : zH) : Option (Int32 × zH) :=
  zb (f_X11_isProcessor n a1 h) fun r1 h2 =>
  if r1 = 0 then
    some ((-1), h2)
  else
    zck h2 11 a0 (zb (f_X10_cellOf n a0 a1 h2) fun r3 h4 =>
    zb (f_X11_isCell n r3 h4) fun r5 h6 =>
    if r5 = 0 then
      some ((-3), h6)
    else
      zgI h6 11 a0 4 fun v7 =>
      if v7 &&& ((1 : Int32) <<< (a1 &&& 31)) = 0 then
        zgR h6 11 a0 1 fun v8 =>
        zgR h6 11 a0 0 fun v9 =>
        zgR h6 1 v9 3 fun v10 =>
        zaI h6 21 v10 r3 fun v11 =>
        zeI h6 v8 a1 v11 fun h12 =>
        zgR h12 11 a0 1 fun v13 =>
        zaI h12 21 v13 a1 fun v14 =>
        some ((1 : Int32) + v14, h12)
      else
        some ((-3), h6))
def f_X10_goIn (n : Nat) (a0 : Nat) (a1 : Int32) (h : zH) : Option (Int32 × zH) :=
  zb (f_X11_isProcessor n a1 h) fun r1 h2 =>
  if r1 = 0 then
    some ((-1), h2)
  else
    zlt ((1 : Int32) <<< (a1 &&& 31)) fun x3 =>
    zgI h2 11 a0 3 fun v4 =>
    if v4 &&& x3 = 0 then
      zgI h2 11 a0 3 fun v5 =>
      zpI h2 11 a0 3 (v5 ||| x3) fun h6 =>
      zgR h6 11 a0 1 fun v7 =>
      zgR h6 11 a0 0 fun v8 =>
      zgI h6 1 v8 6 fun v9 =>
      zeI h6 v7 a1 v9 fun h10 =>
      zgR h10 11 a0 1 fun v11 =>
      zaI h10 21 v11 a1 fun v12 =>
      some ((1 : Int32) + v12, h10)
    else
      some ((-3), h2)
def f_X0_remove (n : Nat) (a0 : Nat) (a1 : Int32) (h : zH) : Option (Int32 × zH) :=
  zck h 1 a0 (zb (f_X0_lastBelow n a0 a1 h) fun r1 h2 =>
  zck h2 1 a0 (zb (f_X0_follower n a0 r1 h2) fun r3 h4 =>
  zb (f_X11_isCell n r3 h4) fun r5 h6 =>
  if r5 = 0 then
    some ((-3), h6)
  else
    zgR h6 1 a0 1 fun v7 =>
    zaI h6 21 v7 r3 fun v8 =>
    if v8 = a1 then
      zgR h6 1 a0 3 fun v9 =>
      zaI h6 21 v9 r3 fun v10 =>
      zck h6 1 a0 (zb (f_X0_leadTo n a0 r1 v10 h6) fun _ h12 =>
      zck h12 1 a0 (zb (f_X0_retire n a0 r3 h12) fun _ h14 =>
      some (r3, h14)))
    else
      some ((-3), h6)))
def f_X10_dropKey (n : Nat) (a0 : Nat) (a1 : Int32) (h : zH) : Option (Int32 × zH) :=
  if a1 < 0 then
    some ((-1), h)
  else
    if a1 < 100 then
      zgR h 11 a0 0 fun v1 =>
      zck h 1 v1 (zb (f_X0_remove n v1 a1 h) fun r2 h3 =>
      some (r2, h3))
    else
      some ((-1), h)
def f_X10_act (n : Nat) (a0 : Nat) (a1 : Int32) (a2 : Int32) (a3 : Int32) (a4 : Nat) (h : zH) : Option (Int32 × zH) :=
  zswl a1 [
    (0, 48,
      zck h 11 a0 (zb (f_X10_putKey n a0 a2 a3 a4 h) fun r1 h2 =>
      some (r1, h2))),
    (1, 57,
      zck h 11 a0 (zb (f_X10_dropKey n a0 a2 h) fun r3 h4 =>
      some (r3, h4))),
    (2, 63,
      zck h 11 a0 (zb (f_X10_goIn n a0 a2 h) fun r5 h6 =>
      some (r5, h6))),
    (3, 69,
      zck h 11 a0 (zb (f_X10_goOn n a0 a2 h) fun r7 h8 =>
      some (r7, h8))),
    (4, 75,
      zck h 11 a0 (zb (f_X10_standStill n a0 a2 h) fun r9 h10 =>
      some (r9, h10))),
    (5, 81,
      zck h 11 a0 (zb (f_X10_goOut n a0 a2 a4 h) fun r11 h12 =>
      some (r11, h12))),
    (6, 89,
      zck h 11 a0 (zb (f_X10_beQuiet n a0 a2 a4 h) fun r13 h14 =>
      some (r13, h14))),
    (7, 97,
      zck h 11 a0 (zb (f_X10_startGrace n a0 h) fun r15 h16 =>
      some (r15, h16)))] (
      some ((-3), h))
def f_X2_commit (n : Nat) (a0 : Nat) (a1 : Int32) (h : zH) : Option (Unit × zH) :=
  zgR h 3 a0 1 fun v1 =>
  zgI h 3 a0 3 fun v2 =>
  zck h 3 a0 (zb (f_X2_slotOf n a0 v2 h) fun r3 h4 =>
  zeI h4 v1 r3 a1 fun h5 =>
  zgI h5 3 a0 3 fun v6 =>
  if 16 ≤ v6 then
    zck h5 3 a0 (zb (f_X2_slotOf n a0 1 h5) fun r7 h8 =>
    zpI h8 3 a0 2 r7 fun h9 =>
    some ((), h9))
  else
    zgI h5 3 a0 3 fun v10 =>
    zpI h5 3 a0 3 (v10 + 1) fun h11 =>
    some ((), h11))
def fb_X11_runClause_180 (n : Nat) (k18 : Nat → Nat → Int32 → Int32 → Int32 → Int32 → zH → Option (Int32 × zH)) (l0 : Nat) (l1 : Nat) (l2 : Int32) (l3 : Int32) (l4 : Int32) (l5 : Int32) (h : zH) : Option (Int32 × zH) :=
  k18 l0 l1 l2 l3 l4 (l5 + 1) h
def fb_X11_runClause_18 (n : Nat) (k18 : Nat → Nat → Int32 → Int32 → Int32 → Int32 → zH → Option (Int32 × zH)) (l0 : Nat) (l1 : Nat) (l2 : Int32) (l3 : Int32) (l4 : Int32) (l5 : Int32) (h : zH) : Option (Int32 × zH) :=
  if l3 ≤ l5 then
    some (1, h)
  else
    zck h 12 l0 (zb (f_X11_tellOrderWords n l0 h) fun _ h2 =>
    zgR h2 12 l0 2 fun v3 =>
    zck h2 9 l1 (zb (f_X8_entry n l1 l2 4 h2) fun r4 h5 =>
    zck h5 5 v3 (zb (f_X4_runs n v3 l1 r4 h5) fun r6 h7 =>
    if r6 = 0 then
      fb_X11_runClause_180 n k18 l0 l1 l2 l3 l4 l5 h7
    else
      zgR h7 12 l0 2 fun v8 =>
      zgL h7 5 v8 2 fun v9 =>
      if lg_cmp v9 0 = 0 then
        fb_X11_runClause_180 n k18 l0 l1 l2 l3 l4 l5 h7
      else
        zgR h7 12 l0 2 fun v10 =>
        zck h7 9 l1 (zb (f_X8_entry n l1 l2 1 h7) fun r11 h12 =>
        zck h12 5 v10 (zb (f_X4_runs n v10 l1 r11 h12) fun r13 h14 =>
        if r13 = 0 then
          some (0, h14)
        else
          zgR h14 12 l0 2 fun v15 =>
          zgL h14 5 v15 2 fun v16 =>
          zlt (Int64.toInt32 v16) fun x17 =>
          zgR h14 12 l0 2 fun v18 =>
          zck h14 9 l1 (zb (f_X8_entry n l1 l2 2 h14) fun r19 h20 =>
          zck h20 5 v18 (zb (f_X4_runs n v18 l1 r19 h20) fun r21 h22 =>
          if r21 = 0 then
            some (0, h22)
          else
            zgR h22 12 l0 2 fun v23 =>
            zgL h22 5 v23 2 fun v24 =>
            zlt (Int64.toInt32 v24) fun x25 =>
            zgR h22 12 l0 5 fun v26 =>
            zgR h22 12 l0 0 fun v27 =>
            zck h22 3 v26 (zb (f_X2_prepare n v26 v27 h22) fun _ h29 =>
            zgR h29 12 l0 0 fun v30 =>
            zgR h29 12 l0 3 fun v31 =>
            zck h29 11 v30 (zb (f_X10_act n v30 l4 x17 x25 v31 h29) fun r32 h33 =>
            if 0 ≤ r32 then
              zgR h33 12 l0 5 fun v34 =>
              zck h33 3 v34 (zb (f_X2_commit n v34 l4 h33) fun _ h36 =>
              zgI h36 12 l0 17 fun v37 =>
              zpI h36 12 l0 17 (v37 + 1) fun h38 =>
              zpI h38 12 l0 18 r32 fun h39 =>
              fb_X11_runClause_180 n k18 l0 l1 l2 l3 l4 l5 h39)
            else
              some (0, h33))))))))))
def f_X11_runClause (n : Nat) (a0 : Nat) (a1 : Nat) (a2 : Int32) (h : zH) : Option (Int32 × zH) :=
  zck h 9 a1 (zb (f_X8_entry n a1 a2 3 h) fun r1 h2 =>
  zck h2 9 a1 (zb (f_X8_entry n a1 a2 0 h2) fun r3 h4 =>
  zlp6 (fb_X11_runClause_18 n ) n a0 a1 a2 r1 r3 0 h4))
def fb_X11_orders_151 (n : Nat) (l0 : Nat) (h : zH) : Option (Int32 × zH) :=
  zgI h 12 l0 17 fun v1 =>
  zck h 12 l0 (zb (f_X11_told n l0 v1 h) fun r2 h3 =>
  some (r2, h3))
def fb_X11_orders_111 (n : Nat) (l0 : Nat) (l2 : Int32) (h : zH) : Option (Int32 × zH) :=
  zgR h 12 l0 0 fun v1 =>
  zgR h 12 l0 1 fun v2 =>
  zck h 11 v1 (zb (f_X10_copyFrom n v1 v2 h) fun _ h4 =>
  zgR h4 12 l0 5 fun v5 =>
  zgR h4 12 l0 6 fun v6 =>
  zck h4 3 v5 (zb (f_X2_copyFrom n v5 v6 h4) fun _ h8 =>
  zpI h8 12 l0 16 l2 fun h9 =>
  zck h9 12 l0 (zb (f_X11_told n l0 (-3) h9) fun r10 h11 =>
  some (r10, h11))))
def fb_X11_orders_82 (n : Nat) (k82 : Nat → Int32 → zH → Option (Int32 × zH)) (l0 : Nat) (l2 : Int32) (h : zH) : Option (Int32 × zH) :=
  zgR h 12 l0 10 fun v1 =>
  zgR h 6 v1 0 fun v2 =>
  zgI h 9 v2 4 fun v3 =>
  if v3 ≤ l2 then
    fb_X11_orders_151 n l0 h
  else
    zgR h 12 l0 10 fun v4 =>
    zgR h 6 v4 0 fun v5 =>
    zck h 12 l0 (zb (f_X11_runClause n l0 v5 l2 h) fun r6 h7 =>
    if r6 = 0 then
      fb_X11_orders_111 n l0 l2 h7
    else
      k82 l0 (l2 + 1) h7)
def f_X11_orders (n : Nat) (a0 : Nat) (h : zH) : Option (Int32 × zH) :=
  zgR h 12 a0 10 fun v1 =>
  zgR h 12 a0 9 fun v2 =>
  zck h 6 v1 (zb (f_X5_reads n v1 v2 1 h) fun r3 h4 =>
  zgR h4 12 a0 9 fun v5 =>
  zpI h4 8 v5 1 0 fun h6 =>
  zgR h6 12 a0 10 fun v7 =>
  zgI h6 6 v7 4 fun v8 =>
  zpI h6 12 a0 15 v8 fun h9 =>
  zpI h9 12 a0 16 (-1) fun h10 =>
  if r3 = 0 then
    zck h10 12 a0 (zb (f_X11_told n a0 (-6) h10) fun r21 h22 =>
    some (r21, h22))
  else
    zgR h10 12 a0 1 fun v11 =>
    zgR h10 12 a0 0 fun v12 =>
    zck h10 11 v11 (zb (f_X10_copyFrom n v11 v12 h10) fun _ h14 =>
    zgR h14 12 a0 6 fun v15 =>
    zgR h14 12 a0 5 fun v16 =>
    zck h14 3 v15 (zb (f_X2_copyFrom n v15 v16 h14) fun _ h18 =>
    zpI h18 12 a0 17 0 fun h19 =>
    zpI h19 12 a0 18 (-1) fun h20 =>
    zlp2 (fb_X11_orders_82 n ) n a0 0 h20)))
def f_X11_fault (n : Nat) (a0 : Nat) (h : zH) : Option (Int32 × zH) :=
  zgI h 12 a0 15 fun v1 =>
  some (v1, h)
def f_X11_stopped (n : Nat) (a0 : Nat) (h : zH) : Option (Int32 × zH) :=
  zgI h 12 a0 16 fun v1 =>
  some (v1, h)
def f_X6_hasLaw (n : Nat) (a0 : Nat) (a1 : Int32) (h : zH) : Option (Int32 × zH) :=
  if a1 < 0 then
    some (0, h)
  else
    zgI h 7 a0 2 fun v1 =>
    if v1 ≤ a1 then
      some (0, h)
    else
      if 6 ≤ a1 then
        some (0, h)
      else
        some (1, h)
def fb_X11_force_23 (n : Nat) (l0 : Nat) (l1 : Int32) (h : zH) : Option (Int32 × zH) :=
  zgR h 12 l0 3 fun v1 =>
  zgI h 7 v1 3 fun v2 =>
  zgR h 12 l0 3 fun v3 =>
  zpI h 7 v3 3 l1 fun h4 =>
  zpI h4 12 l0 19 0 fun h5 =>
  some (v2, h5)
def f_X11_force (n : Nat) (a0 : Nat) (a1 : Int32) (h : zH) : Option (Int32 × zH) :=
  if a1 = (-1) then
    fb_X11_force_23 n a0 a1 h
  else
    zgR h 12 a0 3 fun v1 =>
    zck h 7 v1 (zb (f_X6_hasLaw n v1 a1 h) fun r2 h3 =>
    if r2 = 0 then
      zck h3 12 a0 (zb (f_X11_told n a0 (-2) h3) fun r4 h5 =>
      some (r4, h5))
    else
      fb_X11_force_23 n a0 a1 h3)
def fb_X11_acted_12 (n : Nat) (l0 : Nat) (l2 : Int32) (h : zH) : Option (Int32 × zH) :=
  zck h 12 l0 (zb (f_X11_told n l0 l2 h) fun r1 h2 =>
  some (r1, h2))
def f_X11_acted (n : Nat) (a0 : Nat) (a1 : Int32) (a2 : Int32) (h : zH) : Option (Int32 × zH) :=
  if a2 < 0 then
    fb_X11_acted_12 n a0 a2 h
  else
    zgR h 12 a0 5 fun v1 =>
    zck h 3 v1 (zb (f_X2_commit n v1 a1 h) fun _ h3 =>
    fb_X11_acted_12 n a0 a2 h3)
def f_X11_put (n : Nat) (a0 : Nat) (a1 : Int32) (a2 : Int32) (h : zH) : Option (Int32 × zH) :=
  zgR h 12 a0 5 fun v1 =>
  zgR h 12 a0 0 fun v2 =>
  zck h 3 v1 (zb (f_X2_prepare n v1 v2 h) fun _ h4 =>
  zgR h4 12 a0 0 fun v5 =>
  zgR h4 12 a0 3 fun v6 =>
  zck h4 11 v5 (zb (f_X10_putKey n v5 a1 a2 v6 h4) fun r7 h8 =>
  zck h8 12 a0 (zb (f_X11_acted n a0 0 r7 h8) fun r9 h10 =>
  some (r9, h10))))
def f_X11_drop (n : Nat) (a0 : Nat) (a1 : Int32) (h : zH) : Option (Int32 × zH) :=
  zgR h 12 a0 5 fun v1 =>
  zgR h 12 a0 0 fun v2 =>
  zck h 3 v1 (zb (f_X2_prepare n v1 v2 h) fun _ h4 =>
  zgR h4 12 a0 0 fun v5 =>
  zck h4 11 v5 (zb (f_X10_dropKey n v5 a1 h4) fun r6 h7 =>
  zck h7 12 a0 (zb (f_X11_acted n a0 1 r6 h7) fun r8 h9 =>
  some (r8, h9))))
def f_X11_enter (n : Nat) (a0 : Nat) (a1 : Int32) (h : zH) : Option (Int32 × zH) :=
  zgR h 12 a0 5 fun v1 =>
  zgR h 12 a0 0 fun v2 =>
  zck h 3 v1 (zb (f_X2_prepare n v1 v2 h) fun _ h4 =>
  zgR h4 12 a0 0 fun v5 =>
  zck h4 11 v5 (zb (f_X10_goIn n v5 a1 h4) fun r6 h7 =>
  zck h7 12 a0 (zb (f_X11_acted n a0 2 r6 h7) fun r8 h9 =>
  some (r8, h9))))
def f_X11_step (n : Nat) (a0 : Nat) (a1 : Int32) (h : zH) : Option (Int32 × zH) :=
  zgR h 12 a0 5 fun v1 =>
  zgR h 12 a0 0 fun v2 =>
  zck h 3 v1 (zb (f_X2_prepare n v1 v2 h) fun _ h4 =>
  zgR h4 12 a0 0 fun v5 =>
  zck h4 11 v5 (zb (f_X10_goOn n v5 a1 h4) fun r6 h7 =>
  zck h7 12 a0 (zb (f_X11_acted n a0 3 r6 h7) fun r8 h9 =>
  some (r8, h9))))
def f_X11_park (n : Nat) (a0 : Nat) (a1 : Int32) (h : zH) : Option (Int32 × zH) :=
  zgR h 12 a0 5 fun v1 =>
  zgR h 12 a0 0 fun v2 =>
  zck h 3 v1 (zb (f_X2_prepare n v1 v2 h) fun _ h4 =>
  zgR h4 12 a0 0 fun v5 =>
  zck h4 11 v5 (zb (f_X10_standStill n v5 a1 h4) fun r6 h7 =>
  zck h7 12 a0 (zb (f_X11_acted n a0 4 r6 h7) fun r8 h9 =>
  some (r8, h9))))
def f_X11_leave (n : Nat) (a0 : Nat) (a1 : Int32) (h : zH) : Option (Int32 × zH) :=
  zgR h 12 a0 5 fun v1 =>
  zgR h 12 a0 0 fun v2 =>
  zck h 3 v1 (zb (f_X2_prepare n v1 v2 h) fun _ h4 =>
  zgR h4 12 a0 0 fun v5 =>
  zgR h4 12 a0 3 fun v6 =>
  zck h4 11 v5 (zb (f_X10_goOut n v5 a1 v6 h4) fun r7 h8 =>
  zck h8 12 a0 (zb (f_X11_acted n a0 5 r7 h8) fun r9 h10 =>
  some (r9, h10))))
def f_X11_tick (n : Nat) (a0 : Nat) (a1 : Int32) (h : zH) : Option (Int32 × zH) :=
  zgR h 12 a0 5 fun v1 =>
  zgR h 12 a0 0 fun v2 =>
  zck h 3 v1 (zb (f_X2_prepare n v1 v2 h) fun _ h4 =>
  zgR h4 12 a0 0 fun v5 =>
  zgR h4 12 a0 3 fun v6 =>
  zck h4 11 v5 (zb (f_X10_beQuiet n v5 a1 v6 h4) fun r7 h8 =>
  zck h8 12 a0 (zb (f_X11_acted n a0 6 r7 h8) fun r9 h10 =>
  some (r9, h10))))
def f_X11_begin (n : Nat) (a0 : Nat) (h : zH) : Option (Int32 × zH) :=
  zgR h 12 a0 5 fun v1 =>
  zgR h 12 a0 0 fun v2 =>
  zck h 3 v1 (zb (f_X2_prepare n v1 v2 h) fun _ h4 =>
  zgR h4 12 a0 0 fun v5 =>
  zck h4 11 v5 (zb (f_X10_startGrace n v5 h4) fun r6 h7 =>
  zck h7 12 a0 (zb (f_X11_acted n a0 7 r6 h7) fun r8 h9 =>
  some (r8, h9))))
def fb_X10_hurryGrace_20 (n : Nat) (k20 : Nat → Nat → Int32 → Int32 → Int32 → zH → Option (Int32 × zH)) (l0 : Nat) (l1 : Nat) (l2 : Int32) (l3 : Int32) (l4 : Int32) (h : zH) : Option (Int32 × zH) :=
  if 8 ≤ l4 then
    some (l3, h)
  else
    zgI h 11 l0 6 fun v1 =>
    if v1 = 0 then
      some (l3, h)
    else
      zgI h 11 l0 7 fun v2 =>
      if v2 = l2 then
        zck h 11 l0 (zb (f_X10_beQuiet n l0 l4 l1 h) fun r3 h4 =>
        zb (f_J9_max_7cf53 n r3 0 h4) fun r5 h6 =>
        zlt (l3 + r5) fun x7 =>
        k20 l0 l1 l2 x7 (l4 + 1) h6)
      else
        some (l3, h)
def f_X10_hurryGrace (n : Nat) (a0 : Nat) (a1 : Nat) (h : zH) : Option (Int32 × zH) :=
  zgI h 11 a0 6 fun v1 =>
  if v1 = 0 then
    some ((-3), h)
  else
    zgI h 11 a0 7 fun v2 =>
    zlp5 (fb_X10_hurryGrace_20 n ) n a0 a1 v2 0 0 h
def f_X11_hurry (n : Nat) (a0 : Nat) (h : zH) : Option (Int32 × zH) :=
  zgR h 12 a0 5 fun v1 =>
  zgR h 12 a0 0 fun v2 =>
  zck h 3 v1 (zb (f_X2_prepare n v1 v2 h) fun _ h4 =>
  zgR h4 12 a0 0 fun v5 =>
  zgR h4 12 a0 3 fun v6 =>
  zck h4 11 v5 (zb (f_X10_hurryGrace n v5 v6 h4) fun r7 h8 =>
  zck h8 12 a0 (zb (f_X11_acted n a0 8 r7 h8) fun r9 h10 =>
  some (r9, h10))))
def f_X2_takeBack (n : Nat) (a0 : Nat) (a1 : Nat) (h : zH) : Option (Int32 × zH) :=
  zgI h 3 a0 3 fun v1 =>
  if v1 = 0 then
    some ((-3), h)
  else
    zgI h 3 a0 3 fun v2 =>
    zpI h 3 a0 3 (v2 - 1) fun h3 =>
    zgR h3 3 a0 0 fun v4 =>
    zgI h3 3 a0 3 fun v5 =>
    zck h3 3 a0 (zb (f_X2_slotOf n a0 v5 h3) fun r6 h7 =>
    zaN h7 26 v4 r6 fun v8 =>
    zck h7 11 a1 (zb (f_X10_copyFrom n a1 v8 h7) fun _ h10 =>
    zgR h10 3 a0 1 fun v11 =>
    zgI h10 3 a0 3 fun v12 =>
    zck h10 3 a0 (zb (f_X2_slotOf n a0 v12 h10) fun r13 h14 =>
    zaI h14 21 v11 r13 fun v15 =>
    some (v15, h14))))
def f_X11_undo (n : Nat) (a0 : Nat) (h : zH) : Option (Int32 × zH) :=
  zgR h 12 a0 5 fun v1 =>
  zgR h 12 a0 0 fun v2 =>
  zck h 3 v1 (zb (f_X2_takeBack n v1 v2 h) fun r3 h4 =>
  zck h4 12 a0 (zb (f_X11_told n a0 r3 h4) fun r5 h6 =>
  some (r5, h6)))
def f_X11_sees (n : Nat) (a0 : Nat) (a1 : Int32) (a2 : Int32) (h : zH) : Option (Int32 × zH) :=
  zgR h 12 a0 0 fun v1 =>
  zgR h 11 v1 0 fun v2 =>
  zgR h 12 a0 0 fun v3 =>
  zck h 11 v3 (zb (f_X10_cellOf n v3 a1 h) fun r4 h5 =>
  zck h5 1 v2 (zb (f_X0_along n v2 r4 a2 h5) fun r6 h7 =>
  some (r6, h7)))
def fb_X0_leadsTo_5 (n : Nat) (k5 : Nat → Int32 → Int32 → Int32 → zH → Option (Int32 × zH)) (l0 : Nat) (l2 : Int32) (l3 : Int32) (l4 : Int32) (h : zH) : Option (Int32 × zH) :=
  if 24 ≤ l4 then
    some (0, h)
  else
    zb (f_X11_isCell n l3 h) fun r1 h2 =>
    if r1 = 0 then
      some (0, h2)
    else
      if l3 = l2 then
        some (1, h2)
      else
        zgR h2 1 l0 3 fun v3 =>
        zaI h2 21 v3 l3 fun v4 =>
        k5 l0 l2 v4 (l4 + 1) h2
def f_X0_leadsTo (n : Nat) (a0 : Nat) (a1 : Int32) (a2 : Int32) (h : zH) : Option (Int32 × zH) :=
  zlp4 (fb_X0_leadsTo_5 n ) n a0 a2 a1 0 h
def fb_X11_reach_47 (n : Nat) (k13 : Nat → Int32 → Int32 → Int32 → zH → Option (Int32 × zH)) (l0 : Nat) (l1 : Int32) (l2 : Int32) (l3 : Int32) (h : zH) : Option (Int32 × zH) :=
  k13 l0 l1 l2 (l3 + 1) h
def fb_X11_reach_13 (n : Nat) (k13 : Nat → Int32 → Int32 → Int32 → zH → Option (Int32 × zH)) (l0 : Nat) (l1 : Int32) (l2 : Int32) (l3 : Int32) (h : zH) : Option (Int32 × zH) :=
  if 8 ≤ l3 then
    some (l2, h)
  else
    zgR h 12 l0 0 fun v1 =>
    zgR h 11 v1 0 fun v2 =>
    zgR h 12 l0 0 fun v3 =>
    zck h 11 v3 (zb (f_X10_cellOf n v3 l3 h) fun r4 h5 =>
    zck h5 1 v2 (zb (f_X0_leadsTo n v2 r4 l1 h5) fun r6 h7 =>
    if r6 = 0 then
      fb_X11_reach_47 n k13 l0 l1 l2 l3 h7
    else
      zlt (l2 ||| ((1 : Int32) <<< (l3 &&& 31))) fun x8 =>
      fb_X11_reach_47 n k13 l0 l1 x8 l3 h7))
def f_X11_reach (n : Nat) (a0 : Nat) (a1 : Int32) (h : zH) : Option (Int32 × zH) :=
  zb (f_X11_isCell n a1 h) fun r1 h2 =>
  if r1 = 0 then
    some ((-1), h2)
  else
    zlp4 (fb_X11_reach_13 n ) n a0 a1 0 0 h2
def f_X11_holders (n : Nat) (a0 : Nat) (h : zH) : Option (Int32 × zH) :=
  zgR h 12 a0 0 fun v1 =>
  zgI h 11 v1 6 fun v2 =>
  if v2 = 0 then
    some (0, h)
  else
    zgR h 12 a0 0 fun v3 =>
    zck h 11 v3 (zb (f_X10_unreported n v3 h) fun r4 h5 =>
    zgR h5 12 a0 0 fun v6 =>
    zgI h5 11 v6 5 fun v7 =>
    some (r4 ||| v7, h5))
def f_X10_whyLeaf (n : Nat) (a0 : Nat) (a1 : Int32) (h : zH) : Option (Int32 × zH) :=
  zlt ((2 : Int32) * (a1 - 4)) fun x1 =>
  zck h 11 a0 (zb (f_X10_unreported n a0 h) fun r2 h3 =>
  zlt ((r2 >>> (x1 &&& 31)) &&& 3) fun x4 =>
  if x4 = 0 then
    zgI h3 11 a0 5 fun v5 =>
    if (v5 >>> (x1 &&& 31)) &&& 1 = 0 then
      some (((20 : Int32) + x1) + 1, h3)
    else
      some (((20 : Int32) + x1) + 0, h3)
  else
    if x4 &&& 1 = 0 then
      some (((10 : Int32) + x1) + 1, h3)
    else
      some (((10 : Int32) + x1) + 0, h3))
def fb_X11_why_65 (n : Nat) (l0 : Nat) (l1 : Int32) (l2 : Int32) (h : zH) : Option (Int32 × zH) :=
  if 3 ≤ l1 then
    zgR h 12 l0 0 fun v1 =>
    zck h 11 v1 (zb (f_X10_whyLeaf n v1 l2 h) fun r2 h3 =>
    some (r2, h3))
  else
    some (l2, h)
def fb_X11_why_57 (n : Nat) (k25 : Nat → Int32 → Int32 → Int32 → zH → Option (Int32 × zH)) (l0 : Nat) (l1 : Int32) (l3 : Int32) (s0 : Int32) (s1 : Int32) (h : zH) : Option (Int32 × zH) :=
  zlt (s0 + s1) fun x1 =>
  k25 l0 l1 x1 (l3 + 1) h
def fb_X11_why_25 (n : Nat) (k25 : Nat → Int32 → Int32 → Int32 → zH → Option (Int32 × zH)) (l0 : Nat) (l1 : Int32) (l2 : Int32) (l3 : Int32) (h : zH) : Option (Int32 × zH) :=
  if l1 ≤ l3 then
    fb_X11_why_65 n l0 l1 l2 h
  else
    if 4 ≤ l2 then
      fb_X11_why_65 n l0 l1 l2 h
    else
      zgR h 12 l0 0 fun v1 =>
      zgR h 11 v1 2 fun v2 =>
      zaI h 21 v2 l2 fun v3 =>
      if v3 &&& 1 = 0 then
        fb_X11_why_57 n k25 l0 l1 l3 ((2 : Int32) * l2) 1 h
      else
        fb_X11_why_57 n k25 l0 l1 l3 ((2 : Int32) * l2) 0 h
def f_X11_why (n : Nat) (a0 : Nat) (a1 : Int32) (h : zH) : Option (Int32 × zH) :=
  zgR h 12 a0 0 fun v1 =>
  zgI h 11 v1 6 fun v2 =>
  if v2 = 0 then
    some ((-1), h)
  else
    if a1 < 0 then
      some ((-1), h)
    else
      if a1 ≤ 3 then
        zlp4 (fb_X11_why_25 n ) n a0 a1 1 0 h
      else
        some ((-1), h)
def f_X11_least (n : Nat) (a0 : Nat) (h : zH) : Option (Int32 × zH) :=
  zgR h 12 a0 0 fun v1 =>
  zgI h 11 v1 6 fun v2 =>
  if v2 = 0 then
    some ((-1), h)
  else
    zgR h 12 a0 0 fun v3 =>
    zck h 11 v3 (zb (f_X10_unreported n v3 h) fun r4 h5 =>
    zgR h5 12 a0 0 fun v6 =>
    zgI h5 11 v6 3 fun v7 =>
    zgR h5 12 a0 0 fun v8 =>
    zgI h5 11 v8 4 fun v9 =>
    zlt ((v7 &&& (v9 ^^^ (-1))) &&& r4) fun x10 =>
    zb (f_J6_bitCount_0f7a4 n r4 h5) fun r11 h12 =>
    zgR h12 12 a0 0 fun v13 =>
    zgI h12 11 v13 5 fun v14 =>
    zb (f_J6_bitCount_0f7a4 n v14 h12) fun r15 h16 =>
    zb (f_J6_bitCount_0f7a4 n x10 h16) fun r17 h18 =>
    some ((r11 + r15) + r17, h18))
def f_X1_note (n : Nat) (a0 : Nat) (a1 : Int32) (a2 : Int32) (h : zH) : Option (Int32 × zH) :=
  zgI h 2 a0 2 fun v1 =>
  if v1 < 6 then
    zgR h 2 a0 0 fun v2 =>
    zgI h 2 a0 2 fun v3 =>
    zeI h v2 v3 a1 fun h4 =>
    zgR h4 2 a0 1 fun v5 =>
    zgI h4 2 a0 2 fun v6 =>
    zeI h4 v5 v6 a2 fun h7 =>
    zgI h7 2 a0 2 fun v8 =>
    zpI h7 2 a0 2 (v8 + 1) fun h9 =>
    zgI h9 2 a0 2 fun v10 =>
    some (v10, h9)
  else
    some ((-5), h)
def fb_X11_seen_19 (n : Nat) (l0 : Nat) (h : zH) : Option (Int32 × zH) :=
  zck h 12 l0 (zb (f_X11_told n l0 (-1) h) fun r1 h2 =>
  some (r1, h2))
def f_X11_seen (n : Nat) (a0 : Nat) (a1 : Int32) (a2 : Int32) (h : zH) : Option (Int32 × zH) :=
  if a1 < 0 then
    fb_X11_seen_19 n a0 h
  else
    if 3 ≤ a1 then
      fb_X11_seen_19 n a0 h
    else
      if a2 < 0 then
        fb_X11_seen_19 n a0 h
      else
        if a2 ≤ 100 then
          zgR h 12 a0 4 fun v1 =>
          zck h 2 v1 (zb (f_X1_note n v1 a1 a2 h) fun r2 h3 =>
          zck h3 12 a0 (zb (f_X11_told n a0 r2 h3) fun r4 h5 =>
          some (r4, h5)))
        else
          fb_X11_seen_19 n a0 h
def f_X11_forget (n : Nat) (a0 : Nat) (h : zH) : Option (Int32 × zH) :=
  zgR h 12 a0 4 fun v1 =>
  zgI h 2 v1 2 fun v2 =>
  zgR h 12 a0 4 fun v3 =>
  zpI h 2 v3 2 0 fun h4 =>
  some (v2, h4)
def f_X1_factOf (n : Nat) (a0 : Nat) (a1 : Int32) (a2 : Int32) (h : zH) : Option (Int32 × zH) :=
  if a2 = 0 then
    zgI h 11 a0 3 fun v11 =>
    zb (f_X11_bitOf n v11 ((1 : Int32) <<< (a1 &&& 31)) h) fun r12 h13 =>
    some (r12, h13)
  else
    if a2 = 1 then
      zgI h 11 a0 4 fun v8 =>
      zb (f_X11_bitOf n v8 ((1 : Int32) <<< (a1 &&& 31)) h) fun r9 h10 =>
      some (r9, h10)
    else
      zck h 11 a0 (zb (f_X10_cellOf n a0 a1 h) fun r1 h2 =>
      zb (f_X11_isCell n r1 h2) fun r3 h4 =>
      if r3 = 0 then
        some (100, h4)
      else
        zgR h4 11 a0 0 fun v5 =>
        zgR h4 1 v5 1 fun v6 =>
        zaI h4 21 v6 r1 fun v7 =>
        some (v7, h4))
def fb_X1_fitting_85 (n : Nat) (k4 : Nat → Nat → Int32 → Int32 → zH → Option (Int32 × zH)) (l0 : Nat) (l1 : Nat) (l3 : Int32) (s0 : Int32) (s1 : Int32) (h : zH) : Option (Int32 × zH) :=
  zlt (s0 ||| s1) fun x1 =>
  k4 l0 l1 x1 (l3 + 1) h
def fb_X1_fitting_72 (n : Nat) (k4 : Nat → Nat → Int32 → Int32 → zH → Option (Int32 × zH)) (l0 : Nat) (l1 : Nat) (l2 : Int32) (l3 : Int32) (l4 : Int32) (h : zH) : Option (Int32 × zH) :=
  if l4 = 0 then
    fb_X1_fitting_85 n k4 l0 l1 l3 l2 0 h
  else
    fb_X1_fitting_85 n k4 l0 l1 l3 l2 ((1 : Int32) <<< (l3 &&& 31)) h
def fb_X1_fitting_64 (n : Nat) (k4 : Nat → Nat → Int32 → Int32 → zH → Option (Int32 × zH)) (k16 : Nat → Nat → Int32 → Int32 → Int32 → Int32 → zH → Option (Int32 × zH)) (l0 : Nat) (l1 : Nat) (l2 : Int32) (l3 : Int32) (l5 : Int32) (s0 : Int32) (h : zH) : Option (Int32 × zH) :=
  k16 l0 l1 l2 l3 s0 (l5 + 1) h
def fb_X1_fitting_63 (n : Nat) (k4 : Nat → Nat → Int32 → Int32 → zH → Option (Int32 × zH)) (k16 : Nat → Nat → Int32 → Int32 → Int32 → Int32 → zH → Option (Int32 × zH)) (l0 : Nat) (l1 : Nat) (l2 : Int32) (l3 : Int32) (l5 : Int32) (h : zH) : Option (Int32 × zH) :=
  fb_X1_fitting_64 n k4 k16 l0 l1 l2 l3 l5 0 h
def fb_X1_fitting_16 (n : Nat) (k4 : Nat → Nat → Int32 → Int32 → zH → Option (Int32 × zH)) (k16 : Nat → Nat → Int32 → Int32 → Int32 → Int32 → zH → Option (Int32 × zH)) (l0 : Nat) (l1 : Nat) (l2 : Int32) (l3 : Int32) (l4 : Int32) (l5 : Int32) (h : zH) : Option (Int32 × zH) :=
  zgI h 2 l0 2 fun v1 =>
  if v1 ≤ l5 then
    fb_X1_fitting_72 n k4 l0 l1 l2 l3 l4 h
  else
    if 6 ≤ l5 then
      fb_X1_fitting_72 n k4 l0 l1 l2 l3 l4 h
    else
      if l4 = 0 then
        fb_X1_fitting_63 n k4 k16 l0 l1 l2 l3 l5 h
      else
        zgR h 2 l0 0 fun v2 =>
        zaI h 21 v2 l5 fun v3 =>
        zb (f_X1_factOf n l1 l3 v3 h) fun r4 h5 =>
        zgR h5 2 l0 1 fun v6 =>
        zaI h5 21 v6 l5 fun v7 =>
        if r4 = v7 then
          fb_X1_fitting_64 n k4 k16 l0 l1 l2 l3 l5 1 h5
        else
          fb_X1_fitting_63 n k4 k16 l0 l1 l2 l3 l5 h5
def fb_X1_fitting_4 (n : Nat) (k4 : Nat → Nat → Int32 → Int32 → zH → Option (Int32 × zH)) (l0 : Nat) (l1 : Nat) (l2 : Int32) (l3 : Int32) (h : zH) : Option (Int32 × zH) :=
  if 8 ≤ l3 then
    some (l2, h)
  else
    zlp6 (fb_X1_fitting_16 n k4 ) n l0 l1 l2 l3 1 0 h
def f_X1_fitting (n : Nat) (a0 : Nat) (a1 : Nat) (h : zH) : Option (Int32 × zH) :=
  zlp4 (fb_X1_fitting_4 n ) n a0 a1 0 0 h
def f_X11_canBe (n : Nat) (a0 : Nat) (h : zH) : Option (Int32 × zH) :=
  zgR h 12 a0 4 fun v1 =>
  zgR h 12 a0 0 fun v2 =>
  zck h 2 v1 (zb (f_X1_fitting n v1 v2 h) fun r3 h4 =>
  some (r3, h4))
def fb_X1_mostAlike_89 (n : Nat) (k6 : Nat → Int32 → Int32 → Int32 → Int32 → zH → Option (Int32 × zH)) (l1 : Nat) (l2 : Int32) (l3 : Int32) (l4 : Int32) (l5 : Int32) (l6 : Int32) (h : zH) : Option (Int32 × zH) :=
  zb (f_J9_max_7cf53 n l4 l6 h) fun r1 h2 =>
  k6 l1 l2 l3 r1 (l5 + 1) h2
def fb_X1_mostAlike_80 (n : Nat) (k6 : Nat → Int32 → Int32 → Int32 → Int32 → zH → Option (Int32 × zH)) (k19 : Nat → Int32 → Int32 → Int32 → Int32 → Int32 → Int32 → zH → Option (Int32 × zH)) (l1 : Nat) (l2 : Int32) (l3 : Int32) (l4 : Int32) (l5 : Int32) (l7 : Int32) (s0 : Int32) (s1 : Int32) (h : zH) : Option (Int32 × zH) :=
  zlt (s0 + s1) fun x1 =>
  k19 l1 l2 l3 l4 l5 x1 (l7 + 1) h
def fb_X1_mostAlike_79 (n : Nat) (k6 : Nat → Int32 → Int32 → Int32 → Int32 → zH → Option (Int32 × zH)) (k19 : Nat → Int32 → Int32 → Int32 → Int32 → Int32 → Int32 → zH → Option (Int32 × zH)) (l1 : Nat) (l2 : Int32) (l3 : Int32) (l4 : Int32) (l5 : Int32) (l7 : Int32) (s0 : Int32) (h : zH) : Option (Int32 × zH) :=
  fb_X1_mostAlike_80 n k6 k19 l1 l2 l3 l4 l5 l7 s0 0 h
def fb_X1_mostAlike_57 (n : Nat) (k6 : Nat → Int32 → Int32 → Int32 → Int32 → zH → Option (Int32 × zH)) (k19 : Nat → Int32 → Int32 → Int32 → Int32 → Int32 → Int32 → zH → Option (Int32 × zH)) (l1 : Nat) (l2 : Int32) (l3 : Int32) (l4 : Int32) (l5 : Int32) (l6 : Int32) (l7 : Int32) (s0 : Int32) (h : zH) : Option (Int32 × zH) :=
  if s0 = 0 then
    fb_X1_mostAlike_79 n k6 k19 l1 l2 l3 l4 l5 l7 l6 h
  else
    if l3 &&& ((1 : Int32) <<< (l7 &&& 31)) = 0 then
      fb_X1_mostAlike_79 n k6 k19 l1 l2 l3 l4 l5 l7 l6 h
    else
      fb_X1_mostAlike_80 n k6 k19 l1 l2 l3 l4 l5 l7 l6 1 h
def fb_X1_mostAlike_19 (n : Nat) (k6 : Nat → Int32 → Int32 → Int32 → Int32 → zH → Option (Int32 × zH)) (k19 : Nat → Int32 → Int32 → Int32 → Int32 → Int32 → Int32 → zH → Option (Int32 × zH)) (l1 : Nat) (l2 : Int32) (l3 : Int32) (l4 : Int32) (l5 : Int32) (l6 : Int32) (l7 : Int32) (h : zH) : Option (Int32 × zH) :=
  if 8 ≤ l7 then
    fb_X1_mostAlike_89 n k6 l1 l2 l3 l4 l5 l6 h
  else
    if l3 &&& ((1 : Int32) <<< (l5 &&& 31)) = 0 then
      fb_X1_mostAlike_89 n k6 l1 l2 l3 l4 l5 l6 h
    else
      zb (f_X1_factOf n l1 l5 l2 h) fun r1 h2 =>
      zb (f_X1_factOf n l1 l7 l2 h2) fun r3 h4 =>
      if r1 = r3 then
        fb_X1_mostAlike_57 n k6 k19 l1 l2 l3 l4 l5 l6 l7 1 h4
      else
        fb_X1_mostAlike_57 n k6 k19 l1 l2 l3 l4 l5 l6 l7 0 h4
def fb_X1_mostAlike_6 (n : Nat) (k6 : Nat → Int32 → Int32 → Int32 → Int32 → zH → Option (Int32 × zH)) (l1 : Nat) (l2 : Int32) (l3 : Int32) (l4 : Int32) (l5 : Int32) (h : zH) : Option (Int32 × zH) :=
  if 8 ≤ l5 then
    some (l4, h)
  else
    zlp7 (fb_X1_mostAlike_19 n k6 ) n l1 l2 l3 l4 l5 0 0 h
def f_X1_mostAlike (n : Nat) (a0 : Nat) (a1 : Nat) (a2 : Int32) (a3 : Int32) (h : zH) : Option (Int32 × zH) :=
  zlp5 (fb_X1_mostAlike_6 n ) n a1 a2 a3 0 0 h
def fb_X11_ask_78 (n : Nat) (l1 : Int32) (l3 : Int32) (l4 : Int32) (h : zH) : Option (Int32 × zH) :=
  if l1 = 0 then
    some (l3, h)
  else
    some (l4, h)
def fb_X11_ask_72 (n : Nat) (k36 : Nat → Int32 → Int32 → Int32 → Int32 → Int32 → zH → Option (Int32 × zH)) (l0 : Nat) (l1 : Int32) (l2 : Int32) (l3 : Int32) (l4 : Int32) (l5 : Int32) (h : zH) : Option (Int32 × zH) :=
  k36 l0 l1 l2 l3 l4 (l5 + 1) h
def fb_X11_ask_36 (n : Nat) (k36 : Nat → Int32 → Int32 → Int32 → Int32 → Int32 → zH → Option (Int32 × zH)) (l0 : Nat) (l1 : Int32) (l2 : Int32) (l3 : Int32) (l4 : Int32) (l5 : Int32) (h : zH) : Option (Int32 × zH) :=
  if 3 ≤ l5 then
    fb_X11_ask_78 n l1 l3 l4 h
  else
    zgR h 12 l0 4 fun v1 =>
    zgR h 12 l0 0 fun v2 =>
    zck h 2 v1 (zb (f_X1_mostAlike n v1 v2 l5 l2 h) fun r3 h4 =>
    if l4 ≤ r3 then
      fb_X11_ask_72 n k36 l0 l1 l2 l3 l4 l5 h4
    else
      fb_X11_ask_72 n k36 l0 l1 l2 l5 r3 l5 h4)
def f_X11_ask (n : Nat) (a0 : Nat) (a1 : Int32) (h : zH) : Option (Int32 × zH) :=
  zgR h 12 a0 4 fun v1 =>
  zgR h 12 a0 0 fun v2 =>
  zck h 2 v1 (zb (f_X1_fitting n v1 v2 h) fun r3 h4 =>
  if r3 = 0 then
    some ((-1), h4)
  else
    if a1 < 0 then
      some ((-1), h4)
    else
      if a1 ≤ 1 then
        zlp6 (fb_X11_ask_36 n ) n a0 a1 r3 0 9 0 h4
      else
        some ((-1), h4))
def fb_J7_fill_d0a16_6 (n : Nat) (k6 : Nat → Int64 → Int32 → Int32 → zH → Option (Unit × zH)) (l0 : Nat) (l1 : Int64) (l3 : Int32) (l4 : Int32) (h : zH) : Option (Unit × zH) :=
  if l4 ≤ l3 then
    some ((), h)
  else
    zeL h l0 l3 l1 fun h1 =>
    k6 l0 l1 (l3 + 1) l4 h1
def f_J7_fill_d0a16 (n : Nat) (a0 : Nat) (a1 : Int64) (h : zH) : Option (Unit × zH) :=
  zln' h 22 a0 fun v1 =>
  zlp4 (fb_J7_fill_d0a16_6 n ) n a0 a1 0 v1 h
def fb_X11_few_150 (n : Nat) (k150 : Nat → Int32 → Int64 → Int32 → zH → Option (Int64 × zH)) (l0 : Nat) (l1 : Int32) (l5 : Int64) (l7 : Int32) (h : zH) : Option (Int64 × zH) :=
  if l1 ≤ l7 then
    some (l5, h)
  else
    zgR h 12 l0 13 fun v1 =>
    zaL h v1 l7 fun v2 =>
    zlt (l5 + v2) fun x3 =>
    k150 l0 l1 x3 (l7 + 1) h
def fb_X11_few_144 (n : Nat) (l0 : Nat) (l1 : Int32) (h : zH) : Option (Int64 × zH) :=
  zlp4 (fb_X11_few_150 n ) n l0 l1 0 0 h
def fb_X11_few_116 (n : Nat) (k54 : Nat → Int32 → Int32 → Int64 → Int32 → zH → Option (Int64 × zH)) (l0 : Nat) (l1 : Int32) (l2 : Int32) (l3 : Int64) (l5 : Int32) (h : zH) : Option (Int64 × zH) :=
  zgR h 12 l0 13 fun v1 =>
  zgR h 12 l0 13 fun v2 =>
  zaL h v2 0 fun v3 =>
  zeL h v1 0 ((v3 * ((10 : Int64) - l3)) / 10) fun h4 =>
  k54 l0 l1 l2 l3 (l5 + 1) h4
def fb_X11_few_65 (n : Nat) (k54 : Nat → Int32 → Int32 → Int64 → Int32 → zH → Option (Int64 × zH)) (k65 : Nat → Int32 → Int32 → Int64 → Int32 → Int32 → zH → Option (Int64 × zH)) (l0 : Nat) (l1 : Int32) (l2 : Int32) (l3 : Int64) (l5 : Int32) (l6 : Int32) (h : zH) : Option (Int64 × zH) :=
  if l6 ≤ 0 then
    fb_X11_few_116 n k54 l0 l1 l2 l3 l5 h
  else
    zgR h 12 l0 13 fun v1 =>
    zgR h 12 l0 13 fun v2 =>
    zaL h v2 l6 fun v3 =>
    zgR h 12 l0 13 fun v4 =>
    zaL h v4 (l6 - 1) fun v5 =>
    zeL h v1 l6 (((v3 * ((10 : Int64) - l3)) / 10) + ((v5 * l3) / 10)) fun h6 =>
    k65 l0 l1 l2 l3 l5 (l6 + (-1)) h6
def fb_X11_few_54 (n : Nat) (k54 : Nat → Int32 → Int32 → Int64 → Int32 → zH → Option (Int64 × zH)) (l0 : Nat) (l1 : Int32) (l2 : Int32) (l3 : Int64) (l5 : Int32) (h : zH) : Option (Int64 × zH) :=
  if l2 ≤ l5 then
    fb_X11_few_144 n l0 l1 h
  else
    zlt (l1 - 1) fun x1 =>
    zlp6 (fb_X11_few_65 n k54 ) n l0 l1 l2 l3 l5 x1 h
def f_X11_few (n : Nat) (a0 : Nat) (a1 : Int32) (a2 : Int32) (h : zH) : Option (Int64 × zH) :=
  if a1 < 1 then
    some ((-1), h)
  else
    if 20 < a1 then
      some ((-1), h)
    else
      if a2 < 0 then
        some ((-1), h)
      else
        if a2 ≤ 99 then
          zgR h 12 a0 13 fun v1 =>
          zb (f_J7_fill_d0a16 n v1 0 h) fun _ h3 =>
          zgR h3 12 a0 13 fun v4 =>
          zeL h3 v4 0 1000000000000 fun h5 =>
          zgR h5 12 a0 3 fun v6 =>
          zgI h5 7 v6 4 fun v7 =>
          zlt (Int32.toInt64 v7) fun x8 =>
          zlp5 (fb_X11_few_54 n ) n a0 a1 a2 x8 0 h5
        else
          some ((-1), h)
def fb_X11_compare_18 (n : Nat) (l0 : Nat) (l1 : Int32) (l2 : Int32) (l3 : Int32) (h : zH) : Option (Int32 × zH) :=
  zb (f_X11_isNode n l2 h) fun r1 h2 =>
  if r1 = 0 then
    some ((-1), h2)
  else
    if l3 < 0 then
      some ((-1), h2)
    else
      if l3 ≤ 1 then
        zgR h2 12 l0 3 fun v3 =>
        zgR h2 12 l0 3 fun v4 =>
        zck h2 7 v4 (zb (f_X6_lawAt n v4 l1 h2) fun r5 h6 =>
        zgR h6 12 l0 0 fun v7 =>
        zck h6 7 v3 (zb (f_X6_costOf n v3 r5 l2 l3 v7 h6) fun r8 h9 =>
        some (r8, h9)))
      else
        some ((-1), h2)
def f_X11_compare (n : Nat) (a0 : Nat) (a1 : Int32) (a2 : Int32) (a3 : Int32) (h : zH) : Option (Int32 × zH) :=
  if a1 = (-1) then
    fb_X11_compare_18 n a0 a1 a2 a3 h
  else
    zgR h 12 a0 3 fun v1 =>
    zck h 7 v1 (zb (f_X6_hasLaw n v1 a1 h) fun r2 h3 =>
    if r2 = 0 then
      some ((-1), h3)
    else
      fb_X11_compare_18 n a0 a1 a2 a3 h3)
def f_X10_gracesEnded (n : Nat) (a0 : Nat) (h : zH) : Option (Int32 × zH) :=
  zgI h 11 a0 6 fun v1 =>
  if v1 = 0 then
    zgI h 11 a0 7 fun v2 =>
    some (v2, h)
  else
    zgI h 11 a0 7 fun v3 =>
    some (v3 - 1, h)
def f_X11_drawAfter (n : Nat) (a0 : Int32) (h : zH) : Option (Int32 × zH) :=
  some (Int64.toInt32 ((((Int32.toInt64 a0) * 1103) + 12345) - (((Int32.toInt64 a0) * 1103) + 12345) / 1000003 * 1000003), h)
def fb_X11_days_22 (n : Nat) (l0 : Nat) (h : zH) : Option (Int32 × zH) :=
  zck h 12 l0 (zb (f_X11_told n l0 (-1) h) fun r1 h2 =>
  some (r1, h2))
def fb_X11_days_175 (n : Nat) (l0 : Nat) (l3 : Int32) (h : zH) : Option (Int32 × zH) :=
  zgR h 12 l0 1 fun v1 =>
  zgR h 11 v1 0 fun v2 =>
  zgR h 1 v2 0 fun v3 =>
  zgR h 12 l0 12 fun v4 =>
  zcp h v3 0 v4 0 24 fun h5 =>
  zgR h5 12 l0 1 fun v6 =>
  zck h5 11 v6 (zb (f_X10_gracesEnded n v6 h5) fun r7 h8 =>
  zck h8 12 l0 (zb (f_X11_told n l0 (r7 - l3) h8) fun r9 h10 =>
  some (r9, h10)))
def fb_X11_days_169 (n : Nat) (k53 : Nat → Int32 → Int32 → Int32 → Int32 → zH → Option (Int32 × zH)) (l0 : Nat) (l2 : Int32) (l3 : Int32) (l4 : Int32) (l5 : Int32) (h : zH) : Option (Int32 × zH) :=
  k53 l0 l2 l3 l4 (l5 + 1) h
def fb_X11_days_159 (n : Nat) (k53 : Nat → Int32 → Int32 → Int32 → Int32 → zH → Option (Int32 × zH)) (l0 : Nat) (l2 : Int32) (l3 : Int32) (l4 : Int32) (l5 : Int32) (l6 : Int32) (s0 : Nat) (s1 : Int32) (s2 : Int32) (h : zH) : Option (Int32 × zH) :=
  zgR h 12 l0 3 fun v1 =>
  zck h 11 s0 (zb (f_X10_act n s0 s1 s2 l6 v1 h) fun r2 h3 =>
  fb_X11_days_169 n k53 l0 l2 l3 l4 l5 h3)
def fb_X11_days_117 (n : Nat) (k53 : Nat → Int32 → Int32 → Int32 → Int32 → zH → Option (Int32 × zH)) (l0 : Nat) (l2 : Int32) (l3 : Int32) (l4 : Int32) (l5 : Int32) (l6 : Int32) (l7 : Int32) (l8 : Int32) (s0 : Int32) (h : zH) : Option (Int32 × zH) :=
  if l8 = 8 then
    zgR h 12 l0 1 fun v2 =>
    zgR h 12 l0 3 fun v3 =>
    zck h 11 v2 (zb (f_X10_hurryGrace n v2 v3 h) fun r4 h5 =>
    fb_X11_days_169 n k53 l0 l2 l3 l4 l5 h5)
  else
    zgR h 12 l0 1 fun v1 =>
    if s0 = 0 then
      fb_X11_days_159 n k53 l0 l2 l3 l4 l5 l6 v1 l8 l6 h
    else
      fb_X11_days_159 n k53 l0 l2 l3 l4 l5 l6 v1 l8 l7 h
def fb_X11_days_112 (n : Nat) (k53 : Nat → Int32 → Int32 → Int32 → Int32 → zH → Option (Int32 × zH)) (l0 : Nat) (l2 : Int32) (l3 : Int32) (l4 : Int32) (l5 : Int32) (l6 : Int32) (l7 : Int32) (l8 : Int32) (h : zH) : Option (Int32 × zH) :=
  fb_X11_days_117 n k53 l0 l2 l3 l4 l5 l6 l7 l8 1 h
def fb_X11_days_53 (n : Nat) (k53 : Nat → Int32 → Int32 → Int32 → Int32 → zH → Option (Int32 × zH)) (l0 : Nat) (l2 : Int32) (l3 : Int32) (l4 : Int32) (l5 : Int32) (h : zH) : Option (Int32 × zH) :=
  if l2 ≤ l5 then
    fb_X11_days_175 n l0 l3 h
  else
    zb (f_X11_drawAfter n l4 h) fun r1 h2 =>
    zlt (r1 - r1 / 8 * 8) fun x3 =>
    zb (f_X11_drawAfter n r1 h2) fun r4 h5 =>
    zlt (r4 - r4 / 6 * 6) fun x6 =>
    zb (f_X11_drawAfter n r4 h5) fun r7 h8 =>
    zlt (r7 - r7 / 9 * 9) fun x9 =>
    if x9 = 0 then
      fb_X11_days_112 n k53 l0 l2 l3 r7 l5 x3 x6 x9 h8
    else
      if x9 = 1 then
        fb_X11_days_112 n k53 l0 l2 l3 r7 l5 x3 x6 x9 h8
      else
        fb_X11_days_117 n k53 l0 l2 l3 r7 l5 x3 x6 x9 0 h8
def f_X11_days (n : Nat) (a0 : Nat) (a1 : Int32) (a2 : Int32) (h : zH) : Option (Int32 × zH) :=
  if a1 < 0 then
    fb_X11_days_22 n a0 h
  else
    if 1000000 < a1 then
      fb_X11_days_22 n a0 h
    else
      if a2 < 1 then
        fb_X11_days_22 n a0 h
      else
        if a2 ≤ 60 then
          zgR h 12 a0 1 fun v1 =>
          zgR h 12 a0 0 fun v2 =>
          zck h 11 v1 (zb (f_X10_copyFrom n v1 v2 h) fun _ h4 =>
          zgR h4 12 a0 1 fun v5 =>
          zck h4 11 v5 (zb (f_X10_gracesEnded n v5 h4) fun r6 h7 =>
          zlp5 (fb_X11_days_53 n ) n a0 a2 r6 a1 0 h7))
        else
          fb_X11_days_22 n a0 h
def f_X11_drawn (n : Nat) (a0 : Nat) (a1 : Int32) (h : zH) : Option (Int32 × zH) :=
  zb (f_X11_isCell n a1 h) fun r1 h2 =>
  if r1 = 0 then
    some ((-1), h2)
  else
    zgR h2 12 a0 12 fun v3 =>
    zaI h2 21 v3 a1 fun v4 =>
    some (v4, h2)
def f_X11_imageAt (n : Nat) (a0 : Nat) (a1 : Int32) (h : zH) : Option (Nat × zH) :=
  if a1 = 0 then
    zgR h 12 a0 7 fun v2 =>
    some (v2, h)
  else
    zgR h 12 a0 8 fun v1 =>
    some (v1, h)
def fb_X6_copyFrom_26 (n : Nat) (l0 : Nat) (l1 : Nat) (h : zH) : Option (Unit × zH) :=
  zgI h 7 l1 2 fun v1 =>
  zpI h 7 l0 2 v1 fun h2 =>
  zgI h2 7 l1 3 fun v3 =>
  zpI h2 7 l0 3 v3 fun h4 =>
  zgI h4 7 l1 4 fun v5 =>
  zpI h4 7 l0 4 v5 fun h6 =>
  zgI h6 7 l1 5 fun v7 =>
  zpI h6 7 l0 5 v7 fun h8 =>
  some ((), h8)
def fb_X6_copyFrom_2 (n : Nat) (k2 : Nat → Nat → Int32 → zH → Option (Unit × zH)) (l0 : Nat) (l1 : Nat) (l2 : Int32) (h : zH) : Option (Unit × zH) :=
  if 6 ≤ l2 then
    fb_X6_copyFrom_26 n l0 l1 h
  else
    zgR h 7 l0 1 fun v1 =>
    zgR h 7 l1 1 fun v2 =>
    zaR h 25 v2 l2 fun v3 =>
    zeR h 25 9 v1 l2 v3 fun h4 =>
    k2 l0 l1 (l2 + 1) h4
def f_X6_copyFrom (n : Nat) (a0 : Nat) (a1 : Nat) (h : zH) : Option (Unit × zH) :=
  zlp3 (fb_X6_copyFrom_2 n ) n a0 a1 0 h
def f_X1_copyFrom (n : Nat) (a0 : Nat) (a1 : Nat) (h : zH) : Option (Unit × zH) :=
  zgR h 2 a1 0 fun v1 =>
  zgR h 2 a0 0 fun v2 =>
  zcp h v1 0 v2 0 6 fun h3 =>
  zgR h3 2 a1 1 fun v4 =>
  zgR h3 2 a0 1 fun v5 =>
  zcp h3 v4 0 v5 0 6 fun h6 =>
  zgI h6 2 a1 2 fun v7 =>
  zpI h6 2 a0 2 v7 fun h8 =>
  some ((), h8)
def f_X3_keep (n : Nat) (a0 : Nat) (a1 : Nat) (a2 : Nat) (a3 : Nat) (h : zH) : Option (Unit × zH) :=
  zgR h 4 a0 0 fun v1 =>
  zck h 11 v1 (zb (f_X10_copyFrom n v1 a1 h) fun _ h3 =>
  zgR h3 4 a0 1 fun v4 =>
  zck h3 7 v4 (zb (f_X6_copyFrom n v4 a2 h3) fun _ h6 =>
  zgR h6 4 a0 2 fun v7 =>
  zck h6 2 v7 (zb (f_X1_copyFrom n v7 a3 h6) fun _ h9 =>
  zpZ h9 4 a0 3 1 fun h10 =>
  some ((), h10))))
def fb_X11_image_15 (n : Nat) (l0 : Nat) (l1 : Int32) (h : zH) : Option (Int32 × zH) :=
  zck h 12 l0 (zb (f_X11_imageAt n l0 l1 h) fun r1 h2 =>
  zgR h2 12 l0 0 fun v3 =>
  zgR h2 12 l0 3 fun v4 =>
  zgR h2 12 l0 4 fun v5 =>
  zck h2 4 r1 (zb (f_X3_keep n r1 v3 v4 v5 h2) fun _ h7 =>
  zck h7 12 l0 (zb (f_X11_told n l0 0 h7) fun r8 h9 =>
  some (r8, h9))))
def f_X11_image (n : Nat) (a0 : Nat) (a1 : Int32) (h : zH) : Option (Int32 × zH) :=
  if a1 = 0 then
    fb_X11_image_15 n a0 a1 h
  else
    if a1 = 1 then
      fb_X11_image_15 n a0 a1 h
    else
      zck h 12 a0 (zb (f_X11_told n a0 (-1) h) fun r1 h2 =>
      some (r1, h2))
def f_X3_giveBack (n : Nat) (a0 : Nat) (a1 : Nat) (a2 : Nat) (a3 : Nat) (h : zH) : Option (Unit × zH) :=
  zgR h 4 a0 0 fun v1 =>
  zck h 11 a1 (zb (f_X10_copyFrom n a1 v1 h) fun _ h3 =>
  zgR h3 4 a0 1 fun v4 =>
  zck h3 7 a2 (zb (f_X6_copyFrom n a2 v4 h3) fun _ h6 =>
  zgR h6 4 a0 2 fun v7 =>
  zck h6 2 a3 (zb (f_X1_copyFrom n a3 v7 h6) fun _ h9 =>
  some ((), h9))))
def fb_X11_back_15 (n : Nat) (l0 : Nat) (l1 : Int32) (h : zH) : Option (Int32 × zH) :=
  zck h 12 l0 (zb (f_X11_imageAt n l0 l1 h) fun r1 h2 =>
  zgI h2 4 r1 3 fun v3 =>
  if v3 = 0 then
    zck h2 12 l0 (zb (f_X11_told n l0 (-2) h2) fun r16 h17 =>
    some (r16, h17))
  else
    zck h2 12 l0 (zb (f_X11_imageAt n l0 l1 h2) fun r4 h5 =>
    zgR h5 12 l0 0 fun v6 =>
    zgR h5 12 l0 3 fun v7 =>
    zgR h5 12 l0 4 fun v8 =>
    zck h5 4 r4 (zb (f_X3_giveBack n r4 v6 v7 v8 h5) fun _ h10 =>
    zgR h10 12 l0 5 fun v11 =>
    zck h10 3 v11 (zb (f_X2_clear n v11 h10) fun _ h13 =>
    zck h13 12 l0 (zb (f_X11_told n l0 0 h13) fun r14 h15 =>
    some (r14, h15))))))
def f_X11_back (n : Nat) (a0 : Nat) (a1 : Int32) (h : zH) : Option (Int32 × zH) :=
  if a1 = 0 then
    fb_X11_back_15 n a0 a1 h
  else
    if a1 = 1 then
      fb_X11_back_15 n a0 a1 h
    else
      zck h 12 a0 (zb (f_X11_told n a0 (-1) h) fun r1 h2 =>
      some (r1, h2))
def fb_X0_liveCount_26 (n : Nat) (k4 : Nat → Int32 → Int32 → zH → Option (Int32 × zH)) (l0 : Nat) (l2 : Int32) (s0 : Int32) (s1 : Int32) (h : zH) : Option (Int32 × zH) :=
  zlt (s0 + s1) fun x1 =>
  k4 l0 x1 (l2 + 1) h
def fb_X0_liveCount_4 (n : Nat) (k4 : Nat → Int32 → Int32 → zH → Option (Int32 × zH)) (l0 : Nat) (l1 : Int32) (l2 : Int32) (h : zH) : Option (Int32 × zH) :=
  if 24 ≤ l2 then
    some (l1, h)
  else
    zgR h 1 l0 0 fun v1 =>
    zaI h 21 v1 l2 fun v2 =>
    if v2 = 1 then
      fb_X0_liveCount_26 n k4 l0 l2 l1 1 h
    else
      fb_X0_liveCount_26 n k4 l0 l2 l1 0 h
def f_X0_liveCount (n : Nat) (a0 : Nat) (h : zH) : Option (Int32 × zH) :=
  zlp3 (fb_X0_liveCount_4 n ) n a0 0 0 h
def fb_X11_count_205 (n : Nat) (l0 : Nat) (l1 : Int32) (h : zH) : Option (Int32 × zH) :=
  if l1 < 16 then
    some ((-1), h)
  else
    if 18 < l1 then
      some ((-1), h)
    else
      zck h 12 l0 (zb (f_X11_termNow n l0 (l1 - 16) h) fun r1 h2 =>
      some (r1, h2))
def fb_X11_count_22 (n : Nat) (l0 : Nat) (l1 : Int32) (h : zH) : Option (Int32 × zH) :=
  zswl l1 [
    (0, 100,
      zgR h 12 l0 0 fun v1 =>
      zgR h 11 v1 0 fun v2 =>
      zck h 1 v2 (zb (f_X0_liveCount n v2 h) fun r3 h4 =>
      some (r3, h4))),
    (1, 111,
      zgR h 12 l0 0 fun v5 =>
      zgR h 11 v5 0 fun v6 =>
      zgI h 1 v6 7 fun v7 =>
      some (v7, h)),
    (2, 122,
      zgR h 12 l0 0 fun v8 =>
      zgR h 11 v8 0 fun v9 =>
      zgI h 1 v9 8 fun v10 =>
      some (v10, h)),
    (3, 133,
      zgR h 12 l0 0 fun v11 =>
      zgI h 11 v11 7 fun v12 =>
      some (v12, h)),
    (4, 141,
      zgR h 12 l0 0 fun v13 =>
      zgI h 11 v13 6 fun v14 =>
      if v14 = 0 then
        some (0, h)
      else
        some (1, h)),
    (5, 157,
      zgR h 12 l0 0 fun v15 =>
      zgI h 11 v15 8 fun v16 =>
      some (v16, h)),
    (6, 165,
      zgR h 12 l0 4 fun v17 =>
      zgI h 2 v17 2 fun v18 =>
      some (v18, h)),
    (7, 173,
      zgR h 12 l0 3 fun v19 =>
      zgI h 7 v19 2 fun v20 =>
      some (v20, h)),
    (8, 181,
      zgR h 12 l0 5 fun v21 =>
      zgI h 3 v21 3 fun v22 =>
      some (v22, h)),
    (9, 189,
      zgR h 12 l0 9 fun v23 =>
      zgI h 8 v23 1 fun v24 =>
      some (v24, h)),
    (10, 205,
      fb_X11_count_205 n l0 l1 h),
    (11, 205,
      fb_X11_count_205 n l0 l1 h),
    (12, 205,
      fb_X11_count_205 n l0 l1 h),
    (13, 205,
      fb_X11_count_205 n l0 l1 h),
    (14, 205,
      fb_X11_count_205 n l0 l1 h),
    (15, 197,
      zgR h 12 l0 3 fun v25 =>
      zgI h 7 v25 3 fun v26 =>
      some (v26, h))] (
      fb_X11_count_205 n l0 l1 h)
def f_X11_count (n : Nat) (a0 : Nat) (a1 : Int32) (h : zH) : Option (Int32 × zH) :=
  if a1 < 10 then
    fb_X11_count_22 n a0 a1 h
  else
    if 14 < a1 then
      fb_X11_count_22 n a0 a1 h
    else
      zgR h 12 a0 11 fun v1 =>
      zaI h 21 v1 (a1 - 10) fun v2 =>
      some (v2, h)
def f_X11_status (n : Nat) (a0 : Nat) (h : zH) : Option (Int32 × zH) :=
  zgI h 12 a0 19 fun v1 =>
  some (v1, h)
def f_X12_lies (n : Nat) (a0 : Int32) (a1 : Int32) (a2 : Int32) (h : zH) : Option (Int32 × zH) :=
  if a0 < a1 then
    some (0, h)
  else
    if a2 < a0 then
      some (0, h)
    else
      some (1, h)
def f_X12_lesser (n : Nat) (a0 : Int32) (a1 : Int32) (h : zH) : Option (Int32 × zH) :=
  if a1 ≤ a0 then
    some (a1, h)
  else
    some (a0, h)
def f_X12_greater (n : Nat) (a0 : Int32) (a1 : Int32) (h : zH) : Option (Int32 × zH) :=
  if a0 ≤ a1 then
    some (a1, h)
  else
    some (a0, h)
def f_X12_refuses (n : Nat) (a0 : Nat) (a1 : Int32) (h : zH) : Option (Int32 × zH) :=
  zpI h 13 a0 0 a1 fun h1 =>
  zgR h1 13 a0 1 fun v2 =>
  zaI h1 21 v2 (-a1) fun v3 =>
  zeI h1 v2 (-a1) (v3 + 1) fun h4 =>
  some (a1, h4)
def f_X12_good (n : Nat) (a0 : Nat) (a1 : Int32) (h : zH) : Option (Int32 × zH) :=
  zpI h 13 a0 0 0 fun h1 =>
  some (a1, h1)
def f_X12_settled (n : Nat) (a0 : Nat) (a1 : Int32) (h : zH) : Option (Int32 × zH) :=
  zpI h 13 a0 31 0 fun h1 =>
  zck h1 13 a0 (zb (f_X12_good n a0 a1 h1) fun r2 h3 =>
  some (r2, h3))
def f_X12_isIn (n : Nat) (a0 : Int32) (a1 : Int32) (h : zH) : Option (Int32 × zH) :=
  if (a0 >>> (a1 &&& 31)) &&& 1 = 1 then
    some (1, h)
  else
    some (0, h)
def f_X12_isProcessor (n : Nat) (a0 : Int32) (h : zH) : Option (Int32 × zH) :=
  zb (f_X12_lies n a0 0 7 h) fun r1 h2 =>
  zrZ r1 h2
def f_X12_isCell (n : Nat) (a0 : Int32) (h : zH) : Option (Int32 × zH) :=
  zb (f_X12_lies n a0 0 23 h) fun r1 h2 =>
  zrZ r1 h2
def f_X12_isKey (n : Nat) (a0 : Int32) (h : zH) : Option (Int32 × zH) :=
  zb (f_X12_lies n a0 0 99 h) fun r1 h2 =>
  zrZ r1 h2
def f_X12_leafOf (n : Nat) (a0 : Int32) (h : zH) : Option (Int32 × zH) :=
  some ((4 : Int32) + (a0 / 2), h)
def f_X12_levelOf (n : Nat) (a0 : Int32) (h : zH) : Option (Int32 × zH) :=
  if a0 = 1 then
    some (0, h)
  else
    if 4 ≤ a0 then
      some (2, h)
    else
      some (1, h)
def f_X12_init (n : Nat) (a0 : Nat) (h : zH) : Option (Unit × zH) :=
  znA h 21 7 fun r1 h2 =>
  zpQ h2 13 a0 1 r1 fun h3 =>
  znA h3 21 5815 fun r4 h5 =>
  zpQ h5 13 a0 2 r4 fun h6 =>
  znA h6 21 11630 fun r7 h8 =>
  zpQ h8 13 a0 3 r7 fun h9 =>
  znA h9 24 2 fun r10 h11 =>
  zpQ h11 13 a0 4 r10 fun h12 =>
  znA h12 21 573 fun r13 h14 =>
  zpQ h14 13 a0 5 r13 fun h15 =>
  znA h15 23 146 fun r16 h17 =>
  zeB h17 r16 0 99 fun h18 =>
  zeB h18 r16 1 111 fun h19 =>
  zeB h19 r16 2 115 fun h20 =>
  zeB h20 r16 3 116 fun h21 =>
  zeB h21 r16 4 115 fun h22 =>
  zeB h22 r16 5 32 fun h23 =>
  zeB h23 r16 6 98 fun h24 =>
  zeB h24 r16 7 97 fun h25 =>
  zeB h25 r16 8 114 fun h26 =>
  zeB h26 r16 9 115 fun h27 =>
  zeB h27 r16 10 32 fun h28 =>
  zeB h28 r16 11 105 fun h29 =>
  zeB h29 r16 12 102 fun h30 =>
  zeB h30 r16 13 32 fun h31 =>
  zeB h31 r16 14 111 fun h32 =>
  zeB h32 r16 15 114 fun h33 =>
  zeB h33 r16 16 32 fun h34 =>
  zeB h34 r16 17 97 fun h35 =>
  zeB h35 r16 18 110 fun h36 =>
  zeB h36 r16 19 100 fun h37 =>
  zeB h37 r16 20 32 fun h38 =>
  zeB h38 r16 21 110 fun h39 =>
  zeB h39 r16 22 111 fun h40 =>
  zeB h40 r16 23 116 fun h41 =>
  zeB h41 r16 24 32 fun h42 =>
  zeB h42 r16 25 110 fun h43 =>
  zeB h43 r16 26 111 fun h44 =>
  zeB h44 r16 27 100 fun h45 =>
  zeB h45 r16 28 101 fun h46 =>
  zeB h46 r16 29 32 fun h47 =>
  zeB h47 r16 30 108 fun h48 =>
  zeB h48 r16 31 101 fun h49 =>
  zeB h49 r16 32 118 fun h50 =>
  zeB h50 r16 33 101 fun h51 =>
  zeB h51 r16 34 108 fun h52 =>
  zeB h52 r16 35 32 fun h53 =>
  zeB h53 r16 36 99 fun h54 =>
  zeB h54 r16 37 104 fun h55 =>
  zeB h55 r16 38 105 fun h56 =>
  zeB h56 r16 39 108 fun h57 =>
  zeB h57 r16 40 100 fun h58 =>
  zeB h58 r16 41 32 fun h59 =>
  zeB h59 r16 42 109 fun h60 =>
  zeB h60 r16 43 97 fun h61 =>
  zeB h61 r16 44 110 fun h62 =>
  zeB h62 r16 45 121 fun h63 =>
  zeB h63 r16 46 32 fun h64 =>
  zeB h64 r16 47 107 fun h65 =>
  zeB h65 r16 48 101 fun h66 =>
  zeB h66 r16 49 121 fun h67 =>
  zeB h67 r16 50 32 fun h68 =>
  zeB h68 r16 51 109 fun h69 =>
  zeB h69 r16 52 111 fun h70 =>
  zeB h70 r16 53 111 fun h71 =>
  zeB h71 r16 54 100 fun h72 =>
  zeB h72 r16 55 32 fun h73 =>
  zeB h73 r16 56 116 fun h74 =>
  zeB h74 r16 57 105 fun h75 =>
  zeB h75 r16 58 109 fun h76 =>
  zeB h76 r16 59 101 fun h77 =>
  zeB h77 r16 60 32 fun h78 =>
  zeB h78 r16 61 100 fun h79 =>
  zeB h79 r16 62 111 fun h80 =>
  zeB h80 r16 63 110 fun h81 =>
  zeB h81 r16 64 101 fun h82 =>
  zeB h82 r16 65 32 fun h83 =>
  zeB h83 r16 66 108 fun h84 =>
  zeB h84 r16 67 97 fun h85 =>
  zeB h85 r16 68 116 fun h86 =>
  zeB h86 r16 69 101 fun h87 =>
  zeB h87 r16 70 115 fun h88 =>
  zeB h88 r16 71 116 fun h89 =>
  zeB h89 r16 72 32 fun h90 =>
  zeB h90 r16 73 119 fun h91 =>
  zeB h91 r16 74 97 fun h92 =>
  zeB h92 r16 75 105 fun h93 =>
  zeB h93 r16 76 116 fun h94 =>
  zeB h94 r16 77 115 fun h95 =>
  zeB h95 r16 78 32 fun h96 =>
  zeB h96 r16 79 103 fun h97 =>
  zeB h97 r16 80 114 fun h98 =>
  zeB h98 r16 81 97 fun h99 =>
  zeB h99 r16 82 99 fun h100 =>
  zeB h100 r16 83 101 fun h101 =>
  zeB h101 r16 84 115 fun h102 =>
  zeB h102 r16 85 32 fun h103 =>
  zeB h103 r16 86 97 fun h104 =>
  zeB h104 r16 87 116 fun h105 =>
  zeB h105 r16 88 32 fun h106 =>
  zeB h106 r16 89 118 fun h107 =>
  zeB h107 r16 90 97 fun h108 =>
  zeB h108 r16 91 108 fun h109 =>
  zeB h109 r16 92 117 fun h110 =>
  zeB h110 r16 93 101 fun h111 =>
  zeB h111 r16 94 32 fun h112 =>
  zeB h112 r16 95 112 fun h113 =>
  zeB h113 r16 96 117 fun h114 =>
  zeB h114 r16 97 116 fun h115 =>
  zeB h115 r16 98 32 fun h116 =>
  zeB h116 r16 99 97 fun h117 =>
  zeB h117 r16 100 115 fun h118 =>
  zeB h118 r16 101 32 fun h119 =>
  zeB h119 r16 102 100 fun h120 =>
  zeB h120 r16 103 114 fun h121 =>
  zeB h121 r16 104 111 fun h122 =>
  zeB h122 r16 105 112 fun h123 =>
  zeB h123 r16 106 32 fun h124 =>
  zeB h124 r16 107 101 fun h125 =>
  zeB h125 r16 108 110 fun h126 =>
  zeB h126 r16 109 116 fun h127 =>
  zeB h127 r16 110 101 fun h128 =>
  zeB h128 r16 111 114 fun h129 =>
  zeB h129 r16 112 32 fun h130 =>
  zeB h130 r16 113 115 fun h131 =>
  zeB h131 r16 114 116 fun h132 =>
  zeB h132 r16 115 101 fun h133 =>
  zeB h133 r16 116 112 fun h134 =>
  zeB h134 r16 117 32 fun h135 =>
  zeB h135 r16 118 112 fun h136 =>
  zeB h136 r16 119 97 fun h137 =>
  zeB h137 r16 120 114 fun h138 =>
  zeB h138 r16 121 107 fun h139 =>
  zeB h139 r16 122 32 fun h140 =>
  zeB h140 r16 123 108 fun h141 =>
  zeB h141 r16 124 101 fun h142 =>
  zeB h142 r16 125 97 fun h143 =>
  zeB h143 r16 126 118 fun h144 =>
  zeB h144 r16 127 101 fun h145 =>
  zeB h145 r16 128 32 fun h146 =>
  zeB h146 r16 129 116 fun h147 =>
  zeB h147 r16 130 105 fun h148 =>
  zeB h148 r16 131 99 fun h149 =>
  zeB h149 r16 132 107 fun h150 =>
  zeB h150 r16 133 32 fun h151 =>
  zeB h151 r16 134 98 fun h152 =>
  zeB h152 r16 135 101 fun h153 =>
  zeB h153 r16 136 103 fun h154 =>
  zeB h154 r16 137 105 fun h155 =>
  zeB h155 r16 138 110 fun h156 =>
  zeB h156 r16 139 32 fun h157 =>
  zeB h157 r16 140 116 fun h158 =>
  zeB h158 r16 141 105 fun h159 =>
  zeB h159 r16 142 109 fun h160 =>
  zeB h160 r16 143 101 fun h161 =>
  zeB h161 r16 144 115 fun h162 =>
  zeB h162 r16 145 32 fun h163 =>
  zpQ h163 13 a0 7 r16 fun h164 =>
  znA h164 23 400 fun r165 h166 =>
  zpQ h166 13 a0 11 r165 fun h167 =>
  znA h167 21 5 fun r168 h169 =>
  zpQ h169 13 a0 12 r168 fun h170 =>
  zpI h170 13 a0 14 (-1) fun h171 =>
  znA h171 21 401 fun r172 h173 =>
  zpQ h173 13 a0 15 r172 fun h174 =>
  znA h174 21 401 fun r175 h176 =>
  zpQ h176 13 a0 16 r175 fun h177 =>
  znA h177 21 401 fun r178 h179 =>
  zpQ h179 13 a0 17 r178 fun h180 =>
  znA h180 21 7 fun r181 h182 =>
  zpQ h182 13 a0 26 r181 fun h183 =>
  znA h183 21 3072 fun r184 h185 =>
  zpQ h185 13 a0 29 r184 fun h186 =>
  znA h186 21 3072 fun r187 h188 =>
  zpQ h188 13 a0 30 r187 fun h189 =>
  znA h189 22 21 fun r190 h191 =>
  zpQ h191 13 a0 32 r190 fun h192 =>
  zpI h192 13 a0 33 (-1) fun h193 =>
  znA h193 22 2 fun r194 h195 =>
  zpQ h195 13 a0 39 r194 fun h196 =>
  znA h196 21 24 fun r197 h198 =>
  zpQ h198 13 a0 40 r197 fun h199 =>
  zgR h199 13 a0 2 fun v200 =>
  zeI h199 v200 203 1 fun h201 =>
  zgR h201 13 a0 2 fun v202 =>
  zeI h201 v202 207 (-1) fun h203 =>
  zgR h203 13 a0 2 fun v204 =>
  zeI h203 v204 96 (-1) fun h205 =>
  some ((), h205)
def fb_X12_laysAside_2 (n : Nat) (k2 : Nat → Int32 → Int32 → zH → Option (Unit × zH)) (l0 : Nat) (l1 : Int32) (l2 : Int32) (h : zH) : Option (Unit × zH) :=
  if 191 ≤ l2 then
    some ((), h)
  else
    zgR h 13 l0 5 fun v1 =>
    zgR h 13 l0 2 fun v2 =>
    zaI h 21 v2 l2 fun v3 =>
    zeI h v1 (((191 : Int32) * l1) + l2) v3 fun h4 =>
    k2 l0 l1 (l2 + 1) h4
def f_X12_laysAside (n : Nat) (a0 : Nat) (a1 : Int32) (h : zH) : Option (Unit × zH) :=
  zlp3 (fb_X12_laysAside_2 n ) n a0 a1 0 h
def fb_X12_takesBack_2 (n : Nat) (k2 : Nat → Int32 → Int32 → zH → Option (Unit × zH)) (l0 : Nat) (l1 : Int32) (l2 : Int32) (h : zH) : Option (Unit × zH) :=
  if 191 ≤ l2 then
    some ((), h)
  else
    zgR h 13 l0 2 fun v1 =>
    zgR h 13 l0 5 fun v2 =>
    zaI h 21 v2 (((191 : Int32) * l1) + l2) fun v3 =>
    zeI h v1 l2 v3 fun h4 =>
    k2 l0 l1 (l2 + 1) h4
def f_X12_takesBack (n : Nat) (a0 : Nat) (a1 : Int32) (h : zH) : Option (Unit × zH) :=
  zlp3 (fb_X12_takesBack_2 n ) n a0 a1 0 h
def fb_X12_image_48 (n : Nat) (l0 : Nat) (l1 : Int32) (h : zH) : Option (Int32 × zH) :=
  zgR h 13 l0 4 fun v1 =>
  zeZ h v1 l1 1 fun h2 =>
  zck h2 13 l0 (zb (f_X12_good n l0 0 h2) fun r3 h4 =>
  some (r3, h4))
def fb_X12_image_17 (n : Nat) (k17 : Nat → Int32 → Int32 → zH → Option (Int32 × zH)) (l0 : Nat) (l1 : Int32) (l2 : Int32) (h : zH) : Option (Int32 × zH) :=
  if 5815 ≤ l2 then
    fb_X12_image_48 n l0 l1 h
  else
    zgR h 13 l0 3 fun v1 =>
    zgR h 13 l0 2 fun v2 =>
    zaI h 21 v2 l2 fun v3 =>
    zeI h v1 (((5815 : Int32) * l1) + l2) v3 fun h4 =>
    k17 l0 l1 (l2 + 1) h4
def f_X12_image (n : Nat) (a0 : Nat) (a1 : Int32) (h : zH) : Option (Int32 × zH) :=
  zb (f_X12_lies n a1 0 1 h) fun r1 h2 =>
  if r1 = 0 then
    zck h2 13 a0 (zb (f_X12_refuses n a0 (-1) h2) fun r3 h4 =>
    some (r3, h4))
  else
    zlp3 (fb_X12_image_17 n ) n a0 a1 0 h2
def fb_X12_back_64 (n : Nat) (l0 : Nat) (h : zH) : Option (Int32 × zH) :=
  zck h 13 l0 (zb (f_X12_settled n l0 0 h) fun r1 h2 =>
  some (r1, h2))
def fb_X12_back_33 (n : Nat) (k33 : Nat → Int32 → Int32 → zH → Option (Int32 × zH)) (l0 : Nat) (l1 : Int32) (l2 : Int32) (h : zH) : Option (Int32 × zH) :=
  if 5815 ≤ l2 then
    fb_X12_back_64 n l0 h
  else
    zgR h 13 l0 2 fun v1 =>
    zgR h 13 l0 3 fun v2 =>
    zaI h 21 v2 (((5815 : Int32) * l1) + l2) fun v3 =>
    zeI h v1 l2 v3 fun h4 =>
    k33 l0 l1 (l2 + 1) h4
def f_X12_back (n : Nat) (a0 : Nat) (a1 : Int32) (h : zH) : Option (Int32 × zH) :=
  zb (f_X12_lies n a1 0 1 h) fun r1 h2 =>
  if r1 = 0 then
    zck h2 13 a0 (zb (f_X12_refuses n a0 (-1) h2) fun r7 h8 =>
    some (r7, h8))
  else
    zgR h2 13 a0 4 fun v3 =>
    zaI h2 24 v3 a1 fun v4 =>
    if v4 = 0 then
      zck h2 13 a0 (zb (f_X12_refuses n a0 (-2) h2) fun r5 h6 =>
      some (r5, h6))
    else
      zlp3 (fb_X12_back_33 n ) n a0 a1 0 h2
def f_X12_isOn (n : Nat) (a0 : Nat) (a1 : Int32) (h : zH) : Option (Int32 × zH) :=
  zgR h 13 a0 2 fun v1 =>
  zaI h 21 v1 ((97 : Int32) + a1) fun v2 =>
  if v2 = 1 then
    some (1, h)
  else
    some (0, h)
def f_X12_isParked (n : Nat) (a0 : Nat) (a1 : Int32) (h : zH) : Option (Int32 × zH) :=
  zgR h 13 a0 2 fun v1 =>
  zaI h 21 v1 ((113 : Int32) + a1) fun v2 =>
  if v2 = 1 then
    some (1, h)
  else
    some (0, h)
def f_X12_isHeld (n : Nat) (a0 : Nat) (a1 : Int32) (h : zH) : Option (Int32 × zH) :=
  zgR h 13 a0 2 fun v1 =>
  zaI h 21 v1 ((121 : Int32) + a1) fun v2 =>
  if v2 = 1 then
    some (1, h)
  else
    some (0, h)
def f_X12_runs0 (n : Nat) (a0 : Nat) (h : zH) : Option (Int32 × zH) :=
  zgR h 13 a0 2 fun v1 =>
  zaI h 21 v1 129 fun v2 =>
  if v2 = 1 then
    some (1, h)
  else
    some (0, h)
def f_X12_hasReported (n : Nat) (a0 : Nat) (a1 : Int32) (h : zH) : Option (Int32 × zH) :=
  zck h 13 a0 (zb (f_X12_runs0 n a0 h) fun r1 h2 =>
  if r1 = 0 then
    some (1, h2)
  else
    zgR h2 13 a0 2 fun v3 =>
    zb (f_X12_leafOf n a1 h2) fun r4 h5 =>
    zaI h5 21 v3 ((131 : Int32) + r4) fun v6 =>
    zb (f_X12_isIn n v6 (a1 - a1 / 2 * 2) h5) fun r7 h8 =>
    if r7 = 0 then
      some (1, h8)
    else
      some (0, h8))
def f_X12_cellOf (n : Nat) (a0 : Nat) (a1 : Int32) (h : zH) : Option (Int32 × zH) :=
  zck h 13 a0 (zb (f_X12_isOn n a0 a1 h) fun r1 h2 =>
  if r1 = 0 then
    some ((-1), h2)
  else
    zgR h2 13 a0 2 fun v3 =>
    zaI h2 21 v3 ((105 : Int32) + a1) fun v4 =>
    some (v4, h2))
def f_X12_of (n : Nat) (a0 : Nat) (a1 : Int32) (a2 : Int32) (h : zH) : Option (Int32 × zH) :=
  zb (f_X12_isProcessor n a1 h) fun r1 h2 =>
  if r1 = 0 then
    some ((-1), h2)
  else
    zswl a2 [
      (0, 44,
        zgR h2 13 a0 2 fun v3 =>
        zaI h2 21 v3 ((97 : Int32) + a1) fun v4 =>
        some (v4, h2)),
      (1, 54,
        zck h2 13 a0 (zb (f_X12_cellOf n a0 a1 h2) fun r5 h6 =>
        some (r5, h6))),
      (2, 60,
        zgR h2 13 a0 2 fun v7 =>
        zaI h2 21 v7 ((113 : Int32) + a1) fun v8 =>
        some (v8, h2)),
      (3, 70,
        zgR h2 13 a0 2 fun v9 =>
        zaI h2 21 v9 ((121 : Int32) + a1) fun v10 =>
        some (v10, h2)),
      (4, 80,
        zck h2 13 a0 (zb (f_X12_hasReported n a0 a1 h2) fun r11 h12 =>
        if r11 = 0 then
          some (0, h12)
        else
          some (1, h12)))] (
        some ((-1), h2))
def f_X12_cell (n : Nat) (a0 : Nat) (a1 : Int32) (a2 : Int32) (h : zH) : Option (Int32 × zH) :=
  zb (f_X12_isCell n a1 h) fun r1 h2 =>
  if r1 = 0 then
    some ((-1), h2)
  else
    if a2 = 0 then
      zgR h2 13 a0 2 fun v11 =>
      zaI h2 21 v11 ((0 : Int32) + a1) fun v12 =>
      some (v12, h2)
    else
      zgR h2 13 a0 2 fun v3 =>
      zaI h2 21 v3 ((0 : Int32) + a1) fun v4 =>
      if v4 = 0 then
        some ((-1), h2)
      else
        zswl a2 [
          (1, 64,
            zgR h2 13 a0 2 fun v5 =>
            zaI h2 21 v5 ((24 : Int32) + a1) fun v6 =>
            some (v6, h2)),
          (2, 74,
            zgR h2 13 a0 2 fun v7 =>
            zaI h2 21 v7 ((48 : Int32) + a1) fun v8 =>
            some (v8, h2)),
          (3, 84,
            zgR h2 13 a0 2 fun v9 =>
            zaI h2 21 v9 ((72 : Int32) + a1) fun v10 =>
            some (v10, h2))] (
            some ((-1), h2))
def fb_X12_list_16 (n : Nat) (k16 : Nat → Int32 → Int32 → Int32 → zH → Option (Int32 × zH)) (l0 : Nat) (l1 : Int32) (l2 : Int32) (l3 : Int32) (h : zH) : Option (Int32 × zH) :=
  if l1 ≤ l3 then
    some (l2, h)
  else
    if l2 = (-1) then
      some (l2, h)
    else
      zgR h 13 l0 2 fun v1 =>
      zaI h 21 v1 ((72 : Int32) + l2) fun v2 =>
      k16 l0 l1 v2 (l3 + 1) h
def f_X12_list (n : Nat) (a0 : Nat) (a1 : Int32) (h : zH) : Option (Int32 × zH) :=
  if 0 ≤ a1 then
    zgR h 13 a0 2 fun v1 =>
    zaI h 21 v1 96 fun v2 =>
    zlp4 (fb_X12_list_16 n ) n a0 a1 v2 0 h
  else
    some ((-1), h)
def fb_X12_listMany_10 (n : Nat) (k10 : Nat → Int32 → Int32 → zH → Option (Int32 × zH)) (l0 : Nat) (l1 : Int32) (l2 : Int32) (h : zH) : Option (Int32 × zH) :=
  if l2 = (-1) then
    some (l1, h)
  else
    zgR h 13 l0 2 fun v1 =>
    zaI h 21 v1 ((72 : Int32) + l2) fun v2 =>
    k10 l0 (l1 + 1) v2 h
def f_X12_listMany (n : Nat) (a0 : Nat) (h : zH) : Option (Int32 × zH) :=
  zgR h 13 a0 2 fun v1 =>
  zaI h 21 v1 96 fun v2 =>
  zlp3 (fb_X12_listMany_10 n ) n a0 0 v2 h
def fb_X12_cellWith_8 (n : Nat) (k8 : Nat → Int32 → Int32 → zH → Option (Int32 × zH)) (l0 : Nat) (l1 : Int32) (l2 : Int32) (h : zH) : Option (Int32 × zH) :=
  if l2 = (-1) then
    some (l2, h)
  else
    zgR h 13 l0 2 fun v1 =>
    zaI h 21 v1 ((24 : Int32) + l2) fun v2 =>
    if v2 = l1 then
      some (l2, h)
    else
      zgR h 13 l0 2 fun v3 =>
      zaI h 21 v3 ((72 : Int32) + l2) fun v4 =>
      k8 l0 l1 v4 h
def f_X12_cellWith (n : Nat) (a0 : Nat) (a1 : Int32) (h : zH) : Option (Int32 × zH) :=
  zgR h 13 a0 2 fun v1 =>
  zaI h 21 v1 96 fun v2 =>
  zlp3 (fb_X12_cellWith_8 n ) n a0 a1 v2 h
def f_X12_valueOf0 (n : Nat) (a0 : Nat) (a1 : Int32) (h : zH) : Option (Int32 × zH) :=
  zck h 13 a0 (zb (f_X12_cellWith n a0 a1 h) fun r1 h2 =>
  if r1 = (-1) then
    some ((-1), h2)
  else
    zgR h2 13 a0 2 fun v3 =>
    zaI h2 21 v3 ((48 : Int32) + r1) fun v4 =>
    some (v4, h2))
def f_X12_find (n : Nat) (a0 : Nat) (a1 : Int32) (h : zH) : Option (Int32 × zH) :=
  zb (f_X12_isKey n a1 h) fun r1 h2 =>
  if r1 = 0 then
    some ((-1), h2)
  else
    zck h2 13 a0 (zb (f_X12_valueOf0 n a0 a1 h2) fun r3 h4 =>
    some (r3, h4))
def f_X12_node (n : Nat) (a0 : Nat) (a1 : Int32) (h : zH) : Option (Int32 × zH) :=
  zb (f_X12_lies n a1 1 7 h) fun r1 h2 =>
  if r1 = 0 then
    some ((-1), h2)
  else
    zgR h2 13 a0 2 fun v3 =>
    zaI h2 21 v3 ((131 : Int32) + a1) fun v4 =>
    some (v4, h2)
def fb_X12_old_24 (n : Nat) (l0 : Nat) (l2 : Int32) (s0 : Int32) (h : zH) : Option (Int32 × zH) :=
  zgR h 13 l0 2 fun v1 =>
  zaI h 21 v1 s0 fun v2 =>
  zb (f_X12_lies n l2 0 (v2 - 1) h) fun r3 h4 =>
  if r3 = 0 then
    some ((-1), h4)
  else
    zgR h4 13 l0 2 fun v5 =>
    zaI h4 21 v5 ((s0 + 1) + l2) fun v6 =>
    some (v6, h4)
def f_X12_old (n : Nat) (a0 : Nat) (a1 : Int32) (a2 : Int32) (h : zH) : Option (Int32 × zH) :=
  zb (f_X12_lies n a1 0 1 h) fun r1 h2 =>
  if r1 = 0 then
    some ((-1), h2)
  else
    if a1 = 0 then
      fb_X12_old_24 n a0 a2 139 h2
    else
      fb_X12_old_24 n a0 a2 164 h2
def f_X12_isTerm (n : Nat) (a0 : Int32) (a1 : Int32) (h : zH) : Option (Int32 × zH) :=
  zswl a0 [
    (0, 28,
      zb (f_X12_lies n a1 0 999 h) fun r1 h2 =>
      zrZ r1 h2),
    (1, 37,
      zb (f_X12_lies n a1 0 10 h) fun r3 h4 =>
      zrZ r3 h4),
    (2, 45,
      zb (f_X12_lies n a1 0 9 h) fun r5 h6 =>
      zrZ r5 h6)] (
      some (0, h))
def f_X12_termAt (n : Nat) (a0 : Int32) (h : zH) : Option (Int32 × zH) :=
  zswl a0 [
    (0, 28,
      some (190, h)),
    (1, 32,
      some (203, h))] (
      some (204, h))
def f_X12_terms (n : Nat) (a0 : Nat) (a1 : Int32) (a2 : Int32) (h : zH) : Option (Int32 × zH) :=
  zb (f_X12_isTerm n a1 a2 h) fun r1 h2 =>
  if r1 = 0 then
    zck h2 13 a0 (zb (f_X12_refuses n a0 (-1) h2) fun r13 h14 =>
    some (r13, h14))
  else
    zgR h2 13 a0 2 fun v3 =>
    zb (f_X12_termAt n a1 h2) fun r4 h5 =>
    zaI h5 21 v3 r4 fun v6 =>
    zgR h5 13 a0 2 fun v7 =>
    zb (f_X12_termAt n a1 h5) fun r8 h9 =>
    zeI h9 v7 r8 a2 fun h10 =>
    zck h10 13 a0 (zb (f_X12_settled n a0 v6 h10) fun r11 h12 =>
    some (r11, h12))
def f_X12_setsAsked (n : Nat) (a0 : Nat) (a1 : Int32) (a2 : Int32) (a3 : Int32) (a4 : Int32) (a5 : Int32) (h : zH) : Option (Unit × zH) :=
  zgR h 13 a0 26 fun v1 =>
  zeI h v1 0 a1 fun h2 =>
  zgR h2 13 a0 26 fun v3 =>
  zeI h2 v3 1 a2 fun h4 =>
  zgR h4 13 a0 26 fun v5 =>
  zeI h4 v5 2 a3 fun h6 =>
  zgR h6 13 a0 26 fun v7 =>
  zeI h6 v7 3 a4 fun h8 =>
  zgR h8 13 a0 26 fun v9 =>
  zeI h8 v9 4 a5 fun h10 =>
  zgR h10 13 a0 26 fun v11 =>
  zgR h10 13 a0 2 fun v12 =>
  zaI h10 21 v12 204 fun v13 =>
  zeI h10 v11 5 v13 fun h14 =>
  zgR h14 13 a0 26 fun v15 =>
  zgR h14 13 a0 2 fun v16 =>
  zaI h14 21 v16 190 fun v17 =>
  zeI h14 v15 6 v17 fun h18 =>
  some ((), h18)
def f_X12_codeAt (n : Nat) (a0 : Nat) (a1 : Int32) (h : zH) : Option (Int32 × zH) :=
  zgI h 13 a0 23 fun v1 =>
  if v1 ≤ a1 then
    some (0, h)
  else
    zgR h 13 a0 2 fun v2 =>
    zaI h 21 v2 ((215 : Int32) + a1) fun v3 =>
    some (v3, h)
def f_X12_sign (n : Nat) (a0 : Int32) (h : zH) : Option (Int32 × zH) :=
  some ((100 : Int32) + a0, h)
def fb_X12_passes0_17 (n : Nat) (l0 : Nat) (s0 : Int32) (h : zH) : Option (Int32 × zH) :=
  if s0 = 0 then
    zrZ s0 h
  else
    zgI h 13 l0 22 fun v1 =>
    zpI h 13 l0 22 (v1 + 1) fun h2 =>
    zrZ s0 h2
def f_X12_passes0 (n : Nat) (a0 : Nat) (a1 : Int32) (h : zH) : Option (Int32 × zH) :=
  zgI h 13 a0 22 fun v1 =>
  zck h 13 a0 (zb (f_X12_codeAt n a0 v1 h) fun r2 h3 =>
  if r2 = a1 then
    fb_X12_passes0_17 n a0 1 h3
  else
    fb_X12_passes0_17 n a0 0 h3)
def f_X12_orderValue (n : Nat) (a0 : Nat) (a1 : Int32) (a2 : Int32) (h : zH) : Option (Int32 × zH) :=
  zswl a1 [
    (13, 40,
      zgR h 13 a0 2 fun v1 =>
      zaI h 21 v1 190 fun v2 =>
      some (v2, h)),
    (14, 49,
      zgI h 13 a0 27 fun v3 =>
      some (v3, h)),
    (15, 54,
      zgI h 13 a0 28 fun v4 =>
      some (v4, h)),
    (16, 59,
      zgR h 13 a0 2 fun v5 =>
      zaI h 21 v5 139 fun v6 =>
      some (v6, h)),
    (17, 68,
      zgR h 13 a0 2 fun v7 =>
      zaI h 21 v7 130 fun v8 =>
      some (v8, h)),
    (18, 77,
      zck h 13 a0 (zb (f_X12_cellOf n a0 a2 h) fun r9 h10 =>
      some (r9, h10)))] (
      zck h 13 a0 (zb (f_X12_valueOf0 n a0 a2 h) fun r11 h12 =>
      some (r11, h12)))
def fb_X12_partOf_94 (n : Nat) (kH : Nat → Int32 → zH → Option (Int64 × zH)) (l0 : Nat) (l1 : Int32) (l2 : Int32) (l3 : Int32) (h : zH) : Option (Int64 × zH) :=
  if l1 = 0 then
    some (0, h)
  else
    zgI h 13 l0 24 fun v1 =>
    if v1 = 0 then
      if l2 = 50 then
        zgR h 13 l0 2 fun v7 =>
        zgI h 13 l0 22 fun v8 =>
        zaI h 21 v7 (((3015 : Int32) + v8) - 1) fun v9 =>
        some (Int32.toInt64 v9, h)
      else
        zgI h 13 l0 25 fun v2 =>
        if v2 = 0 then
          zgR h 13 l0 26 fun v3 =>
          zaI h 21 v3 (l2 - 7) fun v4 =>
          some (Int32.toInt64 v4, h)
        else
          zck h 13 l0 (zb (f_X12_orderValue n l0 l2 l3 h) fun r5 h6 =>
          some (Int32.toInt64 r5, h6))
    else
      some (0, h)
def fb_X12_partOf_70 (n : Nat) (kH : Nat → Int32 → zH → Option (Int64 × zH)) (l0 : Nat) (l1 : Int32) (l2 : Int32) (h : zH) : Option (Int64 × zH) :=
  zgR h 13 l0 2 fun v1 =>
  zgI h 13 l0 22 fun v2 =>
  zaI h 21 v1 ((3015 : Int32) + v2) fun v3 =>
  zgI h 13 l0 22 fun v4 =>
  zpI h 13 l0 22 (v4 + 1) fun h5 =>
  fb_X12_partOf_94 n kH l0 l1 l2 v3 h5
def f_X12_partOf (n : Nat) (kH : Nat → Int32 → zH → Option (Int64 × zH)) (a0 : Nat) (a1 : Int32) (h : zH) : Option (Int64 × zH) :=
  zb (f_X12_sign n 91 h) fun r1 h2 =>
  zck h2 13 a0 (zb (f_X12_passes0 n a0 r1 h2) fun r3 h4 =>
  if r3 = 0 then
    zgI h4 13 a0 22 fun v5 =>
    zck h4 13 a0 (zb (f_X12_codeAt n a0 v5 h4) fun r6 h7 =>
    zgI h7 13 a0 22 fun v8 =>
    zpI h7 13 a0 22 (v8 + 1) fun h9 =>
    zgI h9 13 a0 25 fun v10 =>
    if v10 = 0 then
      fb_X12_partOf_94 n kH a0 a1 r6 0 h9
    else
      if r6 = 18 then
        fb_X12_partOf_70 n kH a0 a1 r6 h9
      else
        if r6 = 19 then
          fb_X12_partOf_70 n kH a0 a1 r6 h9
        else
          fb_X12_partOf_94 n kH a0 a1 r6 0 h9)
  else
    zck h4 13 a0 (zb (kH a0 a1 h4) fun r11 h12 =>
    zgI h12 13 a0 22 fun v13 =>
    zpI h12 13 a0 22 (v13 + 1) fun h14 =>
    some (r11, h14)))
def fb_X12_bounded_25 (n : Nat) (l0 : Nat) (l1 : Int64) (h : zH) : Option (Int64 × zH) :=
  zgI h 13 l0 24 fun v1 =>
  if v1 = 0 then
    some (l1, h)
  else
    some (0, h)
def fb_X12_bounded_20 (n : Nat) (l0 : Nat) (l1 : Int64) (h : zH) : Option (Int64 × zH) :=
  zpZ h 13 l0 24 1 fun h1 =>
  fb_X12_bounded_25 n l0 l1 h1
def f_X12_bounded (n : Nat) (a0 : Nat) (a1 : Int64) (a2 : Int32) (h : zH) : Option (Int64 × zH) :=
  if a2 = 0 then
    fb_X12_bounded_25 n a0 a1 h
  else
    if 0 < lg_cmp a1 1000000000 then
      fb_X12_bounded_20 n a0 a1 h
    else
      if 0 ≤ lg_cmp a1 (-1000000000) then
        fb_X12_bounded_25 n a0 a1 h
      else
        fb_X12_bounded_20 n a0 a1 h
def fb_X12_termOf_160 (n : Nat) (kH : Nat → Int32 → zH → Option (Int64 × zH)) (k6 : Nat → Int32 → Int64 → zH → Option (Int64 × zH)) (l0 : Nat) (l1 : Int32) (s0 : Nat) (s1 : Int64) (h : zH) : Option (Int64 × zH) :=
  zck h 13 s0 (zb (f_X12_bounded n s0 s1 l1 h) fun r1 h2 =>
  k6 l0 l1 r1 h2)
def fb_X12_termOf_121 (n : Nat) (kH : Nat → Int32 → zH → Option (Int64 × zH)) (k6 : Nat → Int32 → Int64 → zH → Option (Int64 × zH)) (l0 : Nat) (l1 : Int32) (l2 : Int64) (l4 : Int32) (l5 : Int64) (h : zH) : Option (Int64 × zH) :=
  zb (f_X12_sign n 42 h) fun r1 h2 =>
  if l4 = r1 then
    fb_X12_termOf_160 n kH k6 l0 l1 l0 (l2 * l5) h2
  else
    zb (f_X12_sign n 47 h2) fun r3 h4 =>
    if l4 = r3 then
      if l5 = 0 then none else
      fb_X12_termOf_160 n kH k6 l0 l1 l0 (l2 / l5) h4
    else
      if l5 = 0 then none else
      fb_X12_termOf_160 n kH k6 l0 l1 l0 (l2 - l2 / l5 * l5) h4
def fb_X12_termOf_115 (n : Nat) (kH : Nat → Int32 → zH → Option (Int64 × zH)) (k6 : Nat → Int32 → Int64 → zH → Option (Int64 × zH)) (l0 : Nat) (l1 : Int32) (l2 : Int64) (l4 : Int32) (s0 : Nat) (s1 : Int32) (h : zH) : Option (Int64 × zH) :=
  zpZ h 13 s0 24 s1 fun h1 =>
  fb_X12_termOf_121 n kH k6 l0 l1 l2 l4 1 h1
def fb_X12_termOf_110 (n : Nat) (kH : Nat → Int32 → zH → Option (Int64 × zH)) (k6 : Nat → Int32 → Int64 → zH → Option (Int64 × zH)) (l0 : Nat) (l1 : Int32) (l2 : Int64) (l4 : Int32) (s0 : Nat) (h : zH) : Option (Int64 × zH) :=
  fb_X12_termOf_115 n kH k6 l0 l1 l2 l4 s0 1 h
def fb_X12_termOf_54 (n : Nat) (kH : Nat → Int32 → zH → Option (Int64 × zH)) (k6 : Nat → Int32 → Int64 → zH → Option (Int64 × zH)) (l0 : Nat) (l1 : Int32) (l2 : Int64) (h : zH) : Option (Int64 × zH) :=
  zgI h 13 l0 22 fun v1 =>
  zck h 13 l0 (zb (f_X12_codeAt n l0 v1 h) fun r2 h3 =>
  zgI h3 13 l0 22 fun v4 =>
  zpI h3 13 l0 22 (v4 + 1) fun h5 =>
  zck h5 13 l0 (zb (f_X12_partOf n kH l0 l1 h5) fun r6 h7 =>
  zb (f_X12_sign n 42 h7) fun r8 h9 =>
  if r2 = r8 then
    fb_X12_termOf_121 n kH k6 l0 l1 l2 r2 r6 h9
  else
    if lg_cmp r6 0 = 0 then
      zgI h9 13 l0 24 fun v10 =>
      if v10 = 0 then
        if l1 = 0 then
          fb_X12_termOf_115 n kH k6 l0 l1 l2 r2 l0 0 h9
        else
          fb_X12_termOf_110 n kH k6 l0 l1 l2 r2 l0 h9
      else
        fb_X12_termOf_110 n kH k6 l0 l1 l2 r2 l0 h9
    else
      fb_X12_termOf_121 n kH k6 l0 l1 l2 r2 r6 h9))
def fb_X12_termOf_6 (n : Nat) (kH : Nat → Int32 → zH → Option (Int64 × zH)) (k6 : Nat → Int32 → Int64 → zH → Option (Int64 × zH)) (l0 : Nat) (l1 : Int32) (l2 : Int64) (h : zH) : Option (Int64 × zH) :=
  zgI h 13 l0 22 fun v1 =>
  zck h 13 l0 (zb (f_X12_codeAt n l0 v1 h) fun r2 h3 =>
  zb (f_X12_sign n 42 h3) fun r4 h5 =>
  if r2 = r4 then
    fb_X12_termOf_54 n kH k6 l0 l1 l2 h5
  else
    zgI h5 13 l0 22 fun v6 =>
    zck h5 13 l0 (zb (f_X12_codeAt n l0 v6 h5) fun r7 h8 =>
    zb (f_X12_sign n 47 h8) fun r9 h10 =>
    if r7 = r9 then
      fb_X12_termOf_54 n kH k6 l0 l1 l2 h10
    else
      zgI h10 13 l0 22 fun v11 =>
      zck h10 13 l0 (zb (f_X12_codeAt n l0 v11 h10) fun r12 h13 =>
      zb (f_X12_sign n 37 h13) fun r14 h15 =>
      if r12 = r14 then
        fb_X12_termOf_54 n kH k6 l0 l1 l2 h15
      else
        some (l2, h15))))
def f_X12_termOf (n : Nat) (kH : Nat → Int32 → zH → Option (Int64 × zH)) (a0 : Nat) (a1 : Int32) (h : zH) : Option (Int64 × zH) :=
  zck h 13 a0 (zb (f_X12_partOf n kH a0 a1 h) fun r1 h2 =>
  zlp3 (fb_X12_termOf_6 n kH ) n a0 a1 r1 h2)
def fb_X12_sumOf_95 (n : Nat) (kH : Nat → Int32 → zH → Option (Int64 × zH)) (k6 : Nat → Int32 → Int64 → zH → Option (Int64 × zH)) (l0 : Nat) (l1 : Int32) (s0 : Nat) (s1 : Int64) (h : zH) : Option (Int64 × zH) :=
  zck h 13 s0 (zb (f_X12_bounded n s0 s1 l1 h) fun r1 h2 =>
  k6 l0 l1 r1 h2)
def fb_X12_sumOf_59 (n : Nat) (kH : Nat → Int32 → zH → Option (Int64 × zH)) (k6 : Nat → Int32 → Int64 → zH → Option (Int64 × zH)) (l0 : Nat) (l1 : Int32) (l2 : Int64) (s0 : Int32) (h : zH) : Option (Int64 × zH) :=
  zgI h 13 l0 22 fun v1 =>
  zpI h 13 l0 22 (v1 + 1) fun h2 =>
  zck h2 13 l0 (zb (f_X12_termOf n kH l0 l1 h2) fun r3 h4 =>
  if s0 = 0 then
    fb_X12_sumOf_95 n kH k6 l0 l1 l0 (l2 - r3) h4
  else
    fb_X12_sumOf_95 n kH k6 l0 l1 l0 (l2 + r3) h4)
def fb_X12_sumOf_38 (n : Nat) (kH : Nat → Int32 → zH → Option (Int64 × zH)) (k6 : Nat → Int32 → Int64 → zH → Option (Int64 × zH)) (l0 : Nat) (l1 : Int32) (l2 : Int64) (h : zH) : Option (Int64 × zH) :=
  zgI h 13 l0 22 fun v1 =>
  zck h 13 l0 (zb (f_X12_codeAt n l0 v1 h) fun r2 h3 =>
  zb (f_X12_sign n 43 h3) fun r4 h5 =>
  if r2 = r4 then
    fb_X12_sumOf_59 n kH k6 l0 l1 l2 1 h5
  else
    fb_X12_sumOf_59 n kH k6 l0 l1 l2 0 h5)
def fb_X12_sumOf_6 (n : Nat) (kH : Nat → Int32 → zH → Option (Int64 × zH)) (k6 : Nat → Int32 → Int64 → zH → Option (Int64 × zH)) (l0 : Nat) (l1 : Int32) (l2 : Int64) (h : zH) : Option (Int64 × zH) :=
  zgI h 13 l0 22 fun v1 =>
  zck h 13 l0 (zb (f_X12_codeAt n l0 v1 h) fun r2 h3 =>
  zb (f_X12_sign n 43 h3) fun r4 h5 =>
  if r2 = r4 then
    fb_X12_sumOf_38 n kH k6 l0 l1 l2 h5
  else
    zgI h5 13 l0 22 fun v6 =>
    zck h5 13 l0 (zb (f_X12_codeAt n l0 v6 h5) fun r7 h8 =>
    zb (f_X12_sign n 45 h8) fun r9 h10 =>
    if r7 = r9 then
      fb_X12_sumOf_38 n kH k6 l0 l1 l2 h10
    else
      some (l2, h10)))
def fB_X12_sumOf (n : Nat) (kH : Nat → Int32 → zH → Option (Int64 × zH)) (a0 : Nat) (a1 : Int32) (h : zH) : Option (Int64 × zH) :=
  zck h 13 a0 (zb (f_X12_termOf n kH a0 a1 h) fun r1 h2 =>
  zlp3 (fb_X12_sumOf_6 n kH ) n a0 a1 r1 h2)
def f_X12_sumOf (n : Nat) : Nat → Nat → Int32 → zH → Option (Int64 × zH) := zlp2 (fB_X12_sumOf n)
def f_X12_positiveOf (n : Nat) (kH : Nat → Int32 → zH → Option (Int32 × zH)) (a0 : Nat) (a1 : Int32) (h : zH) : Option (Int32 × zH) :=
  zb (f_X12_sign n 40 h) fun r1 h2 =>
  zck h2 13 a0 (zb (f_X12_passes0 n a0 r1 h2) fun r3 h4 =>
  if r3 = 0 then
    zck h4 13 a0 (zb (f_X12_sumOf n 12 a0 a1 h4) fun r5 h6 =>
    zgI h6 13 a0 22 fun v7 =>
    zck h6 13 a0 (zb (f_X12_codeAt n a0 v7 h6) fun r8 h9 =>
    zgI h9 13 a0 22 fun v10 =>
    zpI h9 13 a0 22 (v10 + 1) fun h11 =>
    zck h11 13 a0 (zb (f_X12_sumOf n 12 a0 a1 h11) fun r12 h13 =>
    if a1 = 0 then
      some (0, h13)
    else
      zgI h13 13 a0 24 fun v14 =>
      if v14 = 0 then
        zb (f_X12_sign n 60 h13) fun r15 h16 =>
        if r8 = r15 then
          if 0 ≤ lg_cmp r5 r12 then
            some (0, h16)
          else
            some (1, h16)
        else
          zb (f_X12_sign n 62 h16) fun r17 h18 =>
          if r8 = r17 then
            if lg_cmp r5 r12 ≤ 0 then
              some (0, h18)
            else
              some (1, h18)
          else
            if lg_cmp r5 r12 = 0 then
              some (1, h18)
            else
              some (0, h18)
      else
        some (0, h13))))
  else
    zck h4 13 a0 (zb (kH a0 a1 h4) fun r19 h20 =>
    zgI h20 13 a0 22 fun v21 =>
    zpI h20 13 a0 22 (v21 + 1) fun h22 =>
    zrZ r19 h22))
def fb_X12_plainOf_24 (n : Nat) (kH : Nat → Int32 → zH → Option (Int32 × zH)) (l0 : Nat) (l1 : Int32) (l2 : Int32) (h : zH) : Option (Int32 × zH) :=
  zck h 13 l0 (zb (f_X12_positiveOf n kH l0 l1 h) fun r1 h2 =>
  if r1 = l2 then
    some (0, h2)
  else
    some (1, h2))
def fb_X12_plainOf_20 (n : Nat) (kH : Nat → Int32 → zH → Option (Int32 × zH)) (k2 : Nat → Int32 → Int32 → zH → Option (Int32 × zH)) (l0 : Nat) (l1 : Int32) (s0 : Int32) (h : zH) : Option (Int32 × zH) :=
  k2 l0 l1 s0 h
def fb_X12_plainOf_2 (n : Nat) (kH : Nat → Int32 → zH → Option (Int32 × zH)) (k2 : Nat → Int32 → Int32 → zH → Option (Int32 × zH)) (l0 : Nat) (l1 : Int32) (l2 : Int32) (h : zH) : Option (Int32 × zH) :=
  zck h 13 l0 (zb (f_X12_passes0 n l0 6 h) fun r1 h2 =>
  if r1 = 0 then
    fb_X12_plainOf_24 n kH l0 l1 l2 h2
  else
    if l2 = 0 then
      fb_X12_plainOf_20 n kH k2 l0 l1 1 h2
    else
      fb_X12_plainOf_20 n kH k2 l0 l1 0 h2)
def f_X12_plainOf (n : Nat) (kH : Nat → Int32 → zH → Option (Int32 × zH)) (a0 : Nat) (a1 : Int32) (h : zH) : Option (Int32 × zH) :=
  zlp3 (fb_X12_plainOf_2 n kH ) n a0 a1 0 h
def fb_X12_bothOf_45 (n : Nat) (kH : Nat → Int32 → zH → Option (Int32 × zH)) (k6 : Nat → Int32 → Int32 → zH → Option (Int32 × zH)) (l0 : Nat) (l1 : Int32) (s0 : Int32) (h : zH) : Option (Int32 × zH) :=
  k6 l0 l1 s0 h
def fb_X12_bothOf_44 (n : Nat) (kH : Nat → Int32 → zH → Option (Int32 × zH)) (k6 : Nat → Int32 → Int32 → zH → Option (Int32 × zH)) (l0 : Nat) (l1 : Int32) (h : zH) : Option (Int32 × zH) :=
  fb_X12_bothOf_45 n kH k6 l0 l1 0 h
def fb_X12_bothOf_28 (n : Nat) (kH : Nat → Int32 → zH → Option (Int32 × zH)) (k6 : Nat → Int32 → Int32 → zH → Option (Int32 × zH)) (l0 : Nat) (l1 : Int32) (l2 : Int32) (s0 : Nat) (s1 : Int32) (h : zH) : Option (Int32 × zH) :=
  zck h 13 s0 (zb (f_X12_plainOf n kH s0 s1 h) fun r1 h2 =>
  if l2 = 0 then
    fb_X12_bothOf_44 n kH k6 l0 l1 h2
  else
    if r1 = 0 then
      fb_X12_bothOf_44 n kH k6 l0 l1 h2
    else
      fb_X12_bothOf_45 n kH k6 l0 l1 1 h2)
def fb_X12_bothOf_27 (n : Nat) (kH : Nat → Int32 → zH → Option (Int32 × zH)) (k6 : Nat → Int32 → Int32 → zH → Option (Int32 × zH)) (l0 : Nat) (l1 : Int32) (l2 : Int32) (s0 : Nat) (h : zH) : Option (Int32 × zH) :=
  fb_X12_bothOf_28 n kH k6 l0 l1 l2 s0 0 h
def fb_X12_bothOf_6 (n : Nat) (kH : Nat → Int32 → zH → Option (Int32 × zH)) (k6 : Nat → Int32 → Int32 → zH → Option (Int32 × zH)) (l0 : Nat) (l1 : Int32) (l2 : Int32) (h : zH) : Option (Int32 × zH) :=
  zck h 13 l0 (zb (f_X12_passes0 n l0 5 h) fun r1 h2 =>
  if r1 = 0 then
    zrZ l2 h2
  else
    if l1 = 0 then
      fb_X12_bothOf_27 n kH k6 l0 l1 l2 l0 h2
    else
      if l2 = 0 then
        fb_X12_bothOf_27 n kH k6 l0 l1 l2 l0 h2
      else
        fb_X12_bothOf_28 n kH k6 l0 l1 l2 l0 1 h2)
def f_X12_bothOf (n : Nat) (kH : Nat → Int32 → zH → Option (Int32 × zH)) (a0 : Nat) (a1 : Int32) (h : zH) : Option (Int32 × zH) :=
  zck h 13 a0 (zb (f_X12_plainOf n kH a0 a1 h) fun r1 h2 =>
  zlp3 (fb_X12_bothOf_6 n kH ) n a0 a1 r1 h2)
def fb_X12_testOf_45 (n : Nat) (kH : Nat → Int32 → zH → Option (Int32 × zH)) (k6 : Nat → Int32 → Int32 → zH → Option (Int32 × zH)) (l0 : Nat) (l1 : Int32) (s0 : Int32) (h : zH) : Option (Int32 × zH) :=
  k6 l0 l1 s0 h
def fb_X12_testOf_40 (n : Nat) (kH : Nat → Int32 → zH → Option (Int32 × zH)) (k6 : Nat → Int32 → Int32 → zH → Option (Int32 × zH)) (l0 : Nat) (l1 : Int32) (h : zH) : Option (Int32 × zH) :=
  fb_X12_testOf_45 n kH k6 l0 l1 1 h
def fb_X12_testOf_28 (n : Nat) (kH : Nat → Int32 → zH → Option (Int32 × zH)) (k6 : Nat → Int32 → Int32 → zH → Option (Int32 × zH)) (l0 : Nat) (l1 : Int32) (l2 : Int32) (s0 : Nat) (s1 : Int32) (h : zH) : Option (Int32 × zH) :=
  zck h 13 s0 (zb (f_X12_bothOf n kH s0 s1 h) fun r1 h2 =>
  if l2 = 0 then
    if r1 = 0 then
      fb_X12_testOf_45 n kH k6 l0 l1 0 h2
    else
      fb_X12_testOf_40 n kH k6 l0 l1 h2
  else
    fb_X12_testOf_40 n kH k6 l0 l1 h2)
def fb_X12_testOf_27 (n : Nat) (kH : Nat → Int32 → zH → Option (Int32 × zH)) (k6 : Nat → Int32 → Int32 → zH → Option (Int32 × zH)) (l0 : Nat) (l1 : Int32) (l2 : Int32) (s0 : Nat) (h : zH) : Option (Int32 × zH) :=
  fb_X12_testOf_28 n kH k6 l0 l1 l2 s0 0 h
def fb_X12_testOf_6 (n : Nat) (kH : Nat → Int32 → zH → Option (Int32 × zH)) (k6 : Nat → Int32 → Int32 → zH → Option (Int32 × zH)) (l0 : Nat) (l1 : Int32) (l2 : Int32) (h : zH) : Option (Int32 × zH) :=
  zck h 13 l0 (zb (f_X12_passes0 n l0 4 h) fun r1 h2 =>
  if r1 = 0 then
    zrZ l2 h2
  else
    if l1 = 0 then
      fb_X12_testOf_27 n kH k6 l0 l1 l2 l0 h2
    else
      if l2 = 0 then
        fb_X12_testOf_28 n kH k6 l0 l1 l2 l0 1 h2
      else
        fb_X12_testOf_27 n kH k6 l0 l1 l2 l0 h2)
def fB_X12_testOf (n : Nat) (kH : Nat → Int32 → zH → Option (Int32 × zH)) (a0 : Nat) (a1 : Int32) (h : zH) : Option (Int32 × zH) :=
  zck h 13 a0 (zb (f_X12_bothOf n kH a0 a1 h) fun r1 h2 =>
  zlp3 (fb_X12_testOf_6 n kH ) n a0 a1 r1 h2)
def f_X12_testOf (n : Nat) : Nat → Nat → Int32 → zH → Option (Int32 × zH) := zlp2 (fB_X12_testOf n)
def fb_X12_tells_203 (n : Nat) (k64 : Nat → Int32 → Int64 → zH → Option (Int32 × zH)) (l0 : Nat) (l1 : Int32) (l3 : Int64) (h : zH) : Option (Int32 × zH) :=
  zgI h 13 l0 22 fun v1 =>
  zpI h 13 l0 22 (v1 + 1) fun h2 =>
  k64 l0 l1 l3 h2
def fb_X12_tells_202 (n : Nat) (k64 : Nat → Int32 → Int64 → zH → Option (Int32 × zH)) (l0 : Nat) (l1 : Int32) (s0 : Int64) (h : zH) : Option (Int32 × zH) :=
  fb_X12_tells_203 n k64 l0 l1 s0 h
def fb_X12_tells_149 (n : Nat) (k64 : Nat → Int32 → Int64 → zH → Option (Int32 × zH)) (l0 : Nat) (l1 : Int32) (l3 : Int64) (l5 : Int32) (l6 : Int64) (l8 : Int32) (s0 : Int32) (h : zH) : Option (Int32 × zH) :=
  if l5 = l1 then
    if s0 = 0 then
      fb_X12_tells_203 n k64 l0 l1 l3 h
    else
      zgI h 13 l0 24 fun v1 =>
      if v1 = 0 then
        if l8 = 0 then
          if 0 ≤ lg_cmp l6 0 then
            if lg_cmp l6 99 ≤ 0 then
              fb_X12_tells_202 n k64 l0 l1 l6 h
            else
              fb_X12_tells_202 n k64 l0 l1 99 h
          else
            fb_X12_tells_202 n k64 l0 l1 0 h
        else
          fb_X12_tells_203 n k64 l0 l1 l3 h
      else
        fb_X12_tells_203 n k64 l0 l1 l3 h
  else
    fb_X12_tells_203 n k64 l0 l1 l3 h
def fb_X12_tells_144 (n : Nat) (k64 : Nat → Int32 → Int64 → zH → Option (Int32 × zH)) (l0 : Nat) (l1 : Int32) (l3 : Int64) (l5 : Int32) (l6 : Int64) (l8 : Int32) (h : zH) : Option (Int32 × zH) :=
  fb_X12_tells_149 n k64 l0 l1 l3 l5 l6 l8 1 h
def fb_X12_tells_115 (n : Nat) (k64 : Nat → Int32 → Int64 → zH → Option (Int32 × zH)) (l0 : Nat) (l1 : Int32) (l3 : Int64) (l5 : Int32) (s0 : Int64) (h : zH) : Option (Int32 × zH) :=
  zgI h 13 l0 24 fun v1 =>
  zpZ h 13 l0 24 0 fun h2 =>
  zck h2 13 l0 (zb (f_X12_passes0 n l0 3 h2) fun r3 h4 =>
  if r3 = 0 then
    fb_X12_tells_144 n k64 l0 l1 l3 l5 s0 v1 h4
  else
    zck h4 13 l0 (zb (f_X12_testOf n 12 l0 1 h4) fun r5 h6 =>
    if r5 = 0 then
      fb_X12_tells_149 n k64 l0 l1 l3 l5 s0 v1 0 h6
    else
      fb_X12_tells_144 n k64 l0 l1 l3 l5 s0 v1 h6))
def fb_X12_tells_64 (n : Nat) (k64 : Nat → Int32 → Int64 → zH → Option (Int32 × zH)) (l0 : Nat) (l1 : Int32) (l3 : Int64) (h : zH) : Option (Int32 × zH) :=
  zgI h 13 l0 22 fun v1 =>
  zgI h 13 l0 23 fun v2 =>
  if v2 ≤ v1 then
    some (Int64.toInt32 l3, h)
  else
    zgI h 13 l0 22 fun v3 =>
    zck h 13 l0 (zb (f_X12_codeAt n l0 v3 h) fun r4 h5 =>
    zpZ h5 13 l0 24 0 fun h6 =>
    zgI h6 13 l0 22 fun v7 =>
    zpI h6 13 l0 22 (v7 + 1) fun h8 =>
    if r4 = 2 then
      fb_X12_tells_115 n k64 l0 l1 l3 r4 1 h8
    else
      zck h8 13 l0 (zb (f_X12_sumOf n 12 l0 1 h8) fun r9 h10 =>
      fb_X12_tells_115 n k64 l0 l1 l3 r4 r9 h10))
def f_X12_tells (n : Nat) (a0 : Nat) (a1 : Int32) (a2 : Int32) (h : zH) : Option (Int32 × zH) :=
  zgR h 13 a0 2 fun v1 =>
  zaI h 21 v1 207 fun v2 =>
  if v2 = (-1) then
    some (a2, h)
  else
    zpZ h 13 a0 25 0 fun h3 =>
    zlt (Int32.toInt64 a2) fun x4 =>
    zgR h3 13 a0 2 fun v5 =>
    zaI h3 21 v5 207 fun v6 =>
    zpI h3 13 a0 22 ((400 : Int32) * v6) fun h7 =>
    zgI h7 13 a0 22 fun v8 =>
    zgR h7 13 a0 2 fun v9 =>
    zgR h7 13 a0 2 fun v10 =>
    zaI h7 21 v10 207 fun v11 =>
    zaI h7 21 v9 ((208 : Int32) + v11) fun v12 =>
    zpI h7 13 a0 23 (v8 + v12) fun h13 =>
    zlp3 (fb_X12_tells_64 n ) n a0 a1 x4 h13
def f_X12_isBarred (n : Nat) (a0 : Nat) (a1 : Int32) (h : zH) : Option (Int32 × zH) :=
  zck h 13 a0 (zb (f_X12_setsAsked n a0 (-1) (-1) (-1) (-1) a1 h) fun _ h2 =>
  zck h2 13 a0 (zb (f_X12_tells n a0 2 0 h2) fun r3 h4 =>
  if r3 = 1 then
    some (1, h4)
  else
    some (0, h4)))
def fb_X12_lowestFree_25 (n : Nat) (l1 : Int32) (h : zH) : Option (Int32 × zH) :=
  if l1 = 24 then
    some ((-1), h)
  else
    some (l1, h)
def fb_X12_lowestFree_2 (n : Nat) (k2 : Nat → Int32 → zH → Option (Int32 × zH)) (l0 : Nat) (l1 : Int32) (h : zH) : Option (Int32 × zH) :=
  if 24 ≤ l1 then
    fb_X12_lowestFree_25 n l1 h
  else
    zgR h 13 l0 2 fun v1 =>
    zaI h 21 v1 ((0 : Int32) + l1) fun v2 =>
    if v2 = 0 then
      fb_X12_lowestFree_25 n l1 h
    else
      k2 l0 (l1 + 1) h
def f_X12_lowestFree (n : Nat) (a0 : Nat) (h : zH) : Option (Int32 × zH) :=
  zlp2 (fb_X12_lowestFree_2 n ) n a0 0 h
def fb_X12_linkTo_3 (n : Nat) (k3 : Nat → Int32 → Int32 → zH → Option (Int32 × zH)) (l0 : Nat) (l1 : Int32) (l2 : Int32) (h : zH) : Option (Int32 × zH) :=
  zgR h 13 l0 2 fun v1 =>
  zaI h 21 v1 l2 fun v2 =>
  if v2 = (-1) then
    some (l2, h)
  else
    zgR h 13 l0 2 fun v3 =>
    zgR h 13 l0 2 fun v4 =>
    zaI h 21 v4 l2 fun v5 =>
    zaI h 21 v3 ((24 : Int32) + v5) fun v6 =>
    if l1 ≤ v6 then
      some (l2, h)
    else
      zgR h 13 l0 2 fun v7 =>
      zaI h 21 v7 l2 fun v8 =>
      zlt ((72 : Int32) + v8) fun x9 =>
      k3 l0 l1 x9 h
def f_X12_linkTo (n : Nat) (a0 : Nat) (a1 : Int32) (h : zH) : Option (Int32 × zH) :=
  zlp3 (fb_X12_linkTo_3 n ) n a0 a1 96 h
def f_X12_ages (n : Nat) (a0 : Nat) (a1 : Int32) (h : zH) : Option (Unit × zH) :=
  zgR h 13 a0 2 fun v1 =>
  zeI h v1 ((0 : Int32) + a1) 2 fun h2 =>
  zgR h2 13 a0 2 fun v3 =>
  zgR h2 13 a0 2 fun v4 =>
  zaI h2 21 v4 139 fun v5 =>
  zeI h2 v3 ((140 : Int32) + v5) a1 fun h6 =>
  zgR h6 13 a0 2 fun v7 =>
  zaI h6 21 v7 139 fun v8 =>
  zeI h6 v7 139 (v8 + 1) fun h9 =>
  some ((), h9)
def fb_X12_puts_144 (n : Nat) (l0 : Nat) (l3 : Int32) (l4 : Int32) (l5 : Int32) (l6 : Int32) (s0 : Nat) (s1 : Int32) (s2 : Int32) (h : zH) : Option (Int32 × zH) :=
  zeI h s0 s1 s2 fun h1 =>
  zgR h1 13 l0 2 fun v2 =>
  zeI h1 v2 l4 l3 fun h3 =>
  if l6 = 0 then
    some (l3, h3)
  else
    zck h3 13 l0 (zb (f_X12_ages n l0 l5 h3) fun _ h5 =>
    some (l3, h5))
def fb_X12_puts_85 (n : Nat) (l0 : Nat) (l1 : Int32) (l2 : Int32) (l3 : Int32) (l4 : Int32) (l5 : Int32) (s0 : Int32) (h : zH) : Option (Int32 × zH) :=
  zgR h 13 l0 2 fun v1 =>
  zeI h v1 ((0 : Int32) + l3) 1 fun h2 =>
  zgR h2 13 l0 2 fun v3 =>
  zeI h2 v3 ((24 : Int32) + l3) l1 fun h4 =>
  zgR h4 13 l0 2 fun v5 =>
  zeI h4 v5 ((48 : Int32) + l3) l2 fun h6 =>
  zgR h6 13 l0 2 fun v7 =>
  if s0 = 0 then
    fb_X12_puts_144 n l0 l3 l4 l5 s0 v7 ((72 : Int32) + l3) l5 h6
  else
    zgR h6 13 l0 2 fun v8 =>
    zaI h6 21 v8 ((72 : Int32) + l5) fun v9 =>
    fb_X12_puts_144 n l0 l3 l4 l5 s0 v7 ((72 : Int32) + l3) v9 h6
def fb_X12_puts_84 (n : Nat) (l0 : Nat) (l1 : Int32) (l2 : Int32) (l3 : Int32) (l4 : Int32) (l5 : Int32) (h : zH) : Option (Int32 × zH) :=
  fb_X12_puts_85 n l0 l1 l2 l3 l4 l5 0 h
def f_X12_puts (n : Nat) (a0 : Nat) (a1 : Int32) (a2 : Int32) (h : zH) : Option (Int32 × zH) :=
  zb (f_X12_isKey n a1 h) fun r1 h2 =>
  if r1 = 0 then
    some ((-1), h2)
  else
    zb (f_X12_lies n a2 0 999 h2) fun r3 h4 =>
    if r3 = 0 then
      some ((-1), h4)
    else
      zck h4 13 a0 (zb (f_X12_isBarred n a0 a1 h4) fun r5 h6 =>
      if r5 = 0 then
        zck h6 13 a0 (zb (f_X12_lowestFree n a0 h6) fun r7 h8 =>
        if r7 = (-1) then
          some ((-5), h8)
        else
          zck h8 13 a0 (zb (f_X12_linkTo n a0 a1 h8) fun r9 h10 =>
          zgR h10 13 a0 2 fun v11 =>
          zaI h10 21 v11 r9 fun v12 =>
          if v12 = (-1) then
            fb_X12_puts_84 n a0 a1 a2 r7 r9 v12 h10
          else
            zgR h10 13 a0 2 fun v13 =>
            zaI h10 21 v13 ((24 : Int32) + v12) fun v14 =>
            if v14 = a1 then
              fb_X12_puts_85 n a0 a1 a2 r7 r9 v12 1 h10
            else
              fb_X12_puts_84 n a0 a1 a2 r7 r9 v12 h10))
      else
        some ((-3), h6))
def fb_X12_row_109 (n : Nat) (l0 : Nat) (l2 : Int32) (h : zH) : Option (Int32 × zH) :=
  zck h 13 l0 (zb (f_X12_settled n l0 l2 h) fun r1 h2 =>
  some (r1, h2))
def fb_X12_row_99 (n : Nat) (k32 : Nat → Int32 → Int32 → Int32 → zH → Option (Int32 × zH)) (l0 : Nat) (l1 : Int32) (l2 : Int32) (l3 : Int32) (s0 : Nat) (s1 : Int32) (s2 : Int32) (h : zH) : Option (Int32 × zH) :=
  zpI h 13 s0 6 (s1 + s2) fun h1 =>
  k32 l0 l1 l2 (l3 + 2) h1
def fb_X12_row_82 (n : Nat) (k32 : Nat → Int32 → Int32 → Int32 → zH → Option (Int32 × zH)) (l0 : Nat) (l1 : Int32) (l3 : Int32) (l4 : Int32) (s0 : Int32) (s1 : Int32) (h : zH) : Option (Int32 × zH) :=
  zlt (s0 + s1) fun x1 =>
  zgI h 13 l0 6 fun v2 =>
  if l4 = 0 then
    fb_X12_row_99 n k32 l0 l1 x1 l3 l0 v2 1 h
  else
    fb_X12_row_99 n k32 l0 l1 x1 l3 l0 v2 0 h
def fb_X12_row_69 (n : Nat) (k32 : Nat → Int32 → Int32 → Int32 → zH → Option (Int32 × zH)) (l0 : Nat) (l1 : Int32) (l2 : Int32) (l3 : Int32) (s0 : Int32) (h : zH) : Option (Int32 × zH) :=
  if s0 = 0 then
    fb_X12_row_82 n k32 l0 l1 l3 s0 l2 0 h
  else
    fb_X12_row_82 n k32 l0 l1 l3 s0 l2 1 h
def fb_X12_row_32 (n : Nat) (k32 : Nat → Int32 → Int32 → Int32 → zH → Option (Int32 × zH)) (l0 : Nat) (l1 : Int32) (l2 : Int32) (l3 : Int32) (h : zH) : Option (Int32 × zH) :=
  if l1 < l3 + 2 then
    fb_X12_row_109 n l0 l2 h
  else
    zgR h 13 l0 11 fun v1 =>
    zaI h 23 v1 l3 fun v2 =>
    zgR h 13 l0 11 fun v3 =>
    zaI h 23 v3 (l3 + 1) fun v4 =>
    zck h 13 l0 (zb (f_X12_puts n l0 v2 (v4 &&& 255) h) fun r5 h6 =>
    if r5 < 0 then
      fb_X12_row_69 n k32 l0 l1 l2 l3 0 h6
    else
      fb_X12_row_69 n k32 l0 l1 l2 l3 1 h6)
def f_X12_row (n : Nat) (a0 : Nat) (h : zH) : Option (Int32 × zH) :=
  zgI h 13 a0 13 fun v1 =>
  zpI h 13 a0 13 0 fun h2 =>
  if v1 = 0 then
    zck h2 13 a0 (zb (f_X12_refuses n a0 (-6) h2) fun r4 h5 =>
    some (r4, h5))
  else
    zpI h2 13 a0 6 (v1 - v1 / 2 * 2) fun h3 =>
    zlp4 (fb_X12_row_32 n ) n a0 v1 0 0 h3
def f_X12_tears (n : Nat) (a0 : Nat) (h : zH) : Option (Int32 × zH) :=
  zgI h 13 a0 6 fun v1 =>
  some (v1, h)
def fb_X12_feed_101 (n : Nat) (l0 : Nat) (h : zH) : Option (Int32 × zH) :=
  zgI h 13 l0 13 fun v1 =>
  zpI h 13 l0 13 (v1 + 20) fun h2 =>
  zgI h2 13 l0 13 fun v3 =>
  some (v3, h2)
def fb_X12_feed_55 (n : Nat) (k55 : Nat → Int32 → zH → Option (Int32 × zH)) (l0 : Nat) (l6 : Int32) (h : zH) : Option (Int32 × zH) :=
  if 20 ≤ l6 then
    fb_X12_feed_101 n l0 h
  else
    zgR h 13 l0 11 fun v1 =>
    zgI h 13 l0 13 fun v2 =>
    zgR h 13 l0 12 fun v3 =>
    zaI h 21 v3 (l6 / 4) fun v4 =>
    zeB h v1 (v2 + l6) ((Int32.toInt8 (v4 >>> (((24 : Int32) - ((8 : Int32) * (l6 - l6 / 4 * 4))) &&& 31))).toInt32) fun h5 =>
    k55 l0 (l6 + 1) h5
def f_X12_feed (n : Nat) (a0 : Nat) (a1 : Int32) (a2 : Int32) (a3 : Int32) (a4 : Int32) (a5 : Int32) (h : zH) : Option (Int32 × zH) :=
  zgI h 13 a0 13 fun v1 =>
  if v1 + 20 ≤ 400 then
    zgR h 13 a0 12 fun v2 =>
    zeI h v2 0 a1 fun h3 =>
    zgR h3 13 a0 12 fun v4 =>
    zeI h3 v4 1 a2 fun h5 =>
    zgR h5 13 a0 12 fun v6 =>
    zeI h5 v6 2 a3 fun h7 =>
    zgR h7 13 a0 12 fun v8 =>
    zeI h7 v8 3 a4 fun h9 =>
    zgR h9 13 a0 12 fun v10 =>
    zeI h9 v10 4 a5 fun h11 =>
    zlp2 (fb_X12_feed_55 n ) n a0 0 h11
  else
    some ((-1), h)
def f_X12_end (n : Nat) (a0 : Nat) (a1 : Int32) (h : zH) : Option (Int32 × zH) :=
  zgI h 13 a0 13 fun v1 =>
  zb (f_X12_lies n a1 0 v1 h) fun r2 h3 =>
  if r2 = 0 then
    some ((-1), h3)
  else
    zpI h3 13 a0 13 a1 fun h4 =>
    some (a1, h4)
def f_X12_isSmall (n : Nat) (a0 : Int32) (h : zH) : Option (Int32 × zH) :=
  if a0 < 97 then
    some (0, h)
  else
    if 122 < a0 then
      some (0, h)
    else
      some (1, h)
def f_X12_isDigit (n : Nat) (a0 : Int32) (h : zH) : Option (Int32 × zH) :=
  if a0 < 48 then
    some (0, h)
  else
    if 57 < a0 then
      some (0, h)
    else
      some (1, h)
def fb_X12_wordOf_104 (n : Nat) (k5 : Nat → Int32 → Int32 → Int32 → Int32 → zH → Option (Int32 × zH)) (l0 : Nat) (l1 : Int32) (l2 : Int32) (l3 : Int32) (l4 : Int32) (l5 : Int32) (l6 : Int32) (h : zH) : Option (Int32 × zH) :=
  if l6 = 0 then
    zlt (l4 + (l5 + 1)) fun x1 =>
    k5 l0 l1 l2 (l3 + 1) x1 h
  else
    some (l3, h)
def fb_X12_wordOf_96 (n : Nat) (k5 : Nat → Int32 → Int32 → Int32 → Int32 → zH → Option (Int32 × zH)) (k57 : Nat → Int32 → Int32 → Int32 → Int32 → Int32 → Int32 → Int32 → zH → Option (Int32 × zH)) (l0 : Nat) (l1 : Int32) (l2 : Int32) (l3 : Int32) (l4 : Int32) (l5 : Int32) (l7 : Int32) (s0 : Int32) (h : zH) : Option (Int32 × zH) :=
  k57 l0 l1 l2 l3 l4 l5 s0 (l7 + 1) h
def fb_X12_wordOf_57 (n : Nat) (k5 : Nat → Int32 → Int32 → Int32 → Int32 → zH → Option (Int32 × zH)) (k57 : Nat → Int32 → Int32 → Int32 → Int32 → Int32 → Int32 → Int32 → zH → Option (Int32 × zH)) (l0 : Nat) (l1 : Int32) (l2 : Int32) (l3 : Int32) (l4 : Int32) (l5 : Int32) (l6 : Int32) (l7 : Int32) (h : zH) : Option (Int32 × zH) :=
  if l5 ≤ l7 then
    fb_X12_wordOf_104 n k5 l0 l1 l2 l3 l4 l5 l6 h
  else
    if l6 = 0 then
      fb_X12_wordOf_104 n k5 l0 l1 l2 l3 l4 l5 l6 h
    else
      zgR h 13 l0 7 fun v1 =>
      zaI h 23 v1 (l4 + l7) fun v2 =>
      zgR h 13 l0 11 fun v3 =>
      zaI h 23 v3 (l1 + l7) fun v4 =>
      if v2 = v4 then
        fb_X12_wordOf_96 n k5 k57 l0 l1 l2 l3 l4 l5 l7 1 h
      else
        fb_X12_wordOf_96 n k5 k57 l0 l1 l2 l3 l4 l5 l7 0 h
def fb_X12_wordOf_52 (n : Nat) (k5 : Nat → Int32 → Int32 → Int32 → Int32 → zH → Option (Int32 × zH)) (l0 : Nat) (l1 : Int32) (l2 : Int32) (l3 : Int32) (l4 : Int32) (l5 : Int32) (s0 : Int32) (h : zH) : Option (Int32 × zH) :=
  zlp8 (fb_X12_wordOf_57 n k5 ) n l0 l1 l2 l3 l4 l5 s0 0 h
def fb_X12_wordOf_39 (n : Nat) (k5 : Nat → Int32 → Int32 → Int32 → Int32 → zH → Option (Int32 × zH)) (l0 : Nat) (l1 : Int32) (l2 : Int32) (l3 : Int32) (l4 : Int32) (l5 : Int32) (h : zH) : Option (Int32 × zH) :=
  if l5 = l2 - l1 then
    fb_X12_wordOf_52 n k5 l0 l1 l2 l3 l4 l5 1 h
  else
    fb_X12_wordOf_52 n k5 l0 l1 l2 l3 l4 l5 0 h
def fb_X12_wordOf_18 (n : Nat) (k5 : Nat → Int32 → Int32 → Int32 → Int32 → zH → Option (Int32 × zH)) (k18 : Nat → Int32 → Int32 → Int32 → Int32 → Int32 → zH → Option (Int32 × zH)) (l0 : Nat) (l1 : Int32) (l2 : Int32) (l3 : Int32) (l4 : Int32) (l5 : Int32) (h : zH) : Option (Int32 × zH) :=
  zgR h 13 l0 7 fun v1 =>
  zaI h 23 v1 (l4 + l5) fun v2 =>
  if v2 = 32 then
    fb_X12_wordOf_39 n k5 l0 l1 l2 l3 l4 l5 h
  else
    k18 l0 l1 l2 l3 l4 (l5 + 1) h
def fb_X12_wordOf_5 (n : Nat) (k5 : Nat → Int32 → Int32 → Int32 → Int32 → zH → Option (Int32 × zH)) (l0 : Nat) (l1 : Int32) (l2 : Int32) (l3 : Int32) (l4 : Int32) (h : zH) : Option (Int32 × zH) :=
  zgR h 13 l0 7 fun v1 =>
  zln' h 23 v1 fun v2 =>
  if v2 ≤ l4 then
    some (0, h)
  else
    zlp6 (fb_X12_wordOf_18 n k5 ) n l0 l1 l2 l3 l4 0 h
def f_X12_wordOf (n : Nat) (a0 : Nat) (a1 : Int32) (a2 : Int32) (h : zH) : Option (Int32 × zH) :=
  zlp5 (fb_X12_wordOf_5 n ) n a0 a1 a2 1 0 h
def fb_X12_splits_263 (n : Nat) (l0 : Nat) (l1 : Int32) (h : zH) : Option (Unit × zH) :=
  zgR h 13 l0 17 fun v1 =>
  zgI h 13 l0 18 fun v2 =>
  zeI h v1 v2 l1 fun h3 =>
  zgR h3 13 l0 15 fun v4 =>
  zgI h3 13 l0 18 fun v5 =>
  zeI h3 v4 v5 0 fun h6 =>
  zgR h6 13 l0 16 fun v7 =>
  zgI h6 13 l0 18 fun v8 =>
  zeI h6 v7 v8 0 fun h9 =>
  some ((), h9)
def fb_X12_splits_247 (n : Nat) (k7 : Nat → Int32 → Int32 → zH → Option (Unit × zH)) (l0 : Nat) (l1 : Int32) (l4 : Int32) (h : zH) : Option (Unit × zH) :=
  zgI h 13 l0 18 fun v1 =>
  zpI h 13 l0 18 (v1 + 1) fun h2 =>
  k7 l0 l1 l4 h2
def fb_X12_splits_240 (n : Nat) (k7 : Nat → Int32 → Int32 → zH → Option (Unit × zH)) (k169 : Nat → Int32 → Int32 → Int32 → Int32 → zH → Option (Unit × zH)) (l0 : Nat) (l1 : Int32) (l3 : Int32) (l4 : Int32) (l5 : Int32) (s0 : Nat) (s1 : Int32) (s2 : Int32) (h : zH) : Option (Unit × zH) :=
  zeI h s0 s1 s2 fun h1 =>
  k169 l0 l1 l3 l4 (l5 + 1) h1
def fb_X12_splits_169 (n : Nat) (k7 : Nat → Int32 → Int32 → zH → Option (Unit × zH)) (k169 : Nat → Int32 → Int32 → Int32 → Int32 → zH → Option (Unit × zH)) (l0 : Nat) (l1 : Int32) (l3 : Int32) (l4 : Int32) (l5 : Int32) (h : zH) : Option (Unit × zH) :=
  if l4 ≤ l5 then
    fb_X12_splits_247 n k7 l0 l1 l4 h
  else
    zb (f_X12_isDigit n l3 h) fun r1 h2 =>
    if r1 = 0 then
      fb_X12_splits_247 n k7 l0 l1 l4 h2
    else
      zgR h2 13 l0 16 fun v3 =>
      zgI h2 13 l0 18 fun v4 =>
      zgR h2 13 l0 16 fun v5 =>
      zgI h2 13 l0 18 fun v6 =>
      zaI h2 21 v5 v6 fun v7 =>
      if v7 ≤ 1000000 then
        zgR h2 13 l0 16 fun v8 =>
        zgI h2 13 l0 18 fun v9 =>
        zaI h2 21 v8 v9 fun v10 =>
        zgR h2 13 l0 11 fun v11 =>
        zaI h2 23 v11 l5 fun v12 =>
        fb_X12_splits_240 n k7 k169 l0 l1 l3 l4 l5 v3 v4 ((((10 : Int32) * v10) + v12) - 48) h2
      else
        zgR h2 13 l0 16 fun v13 =>
        zgI h2 13 l0 18 fun v14 =>
        zaI h2 21 v13 v14 fun v15 =>
        fb_X12_splits_240 n k7 k169 l0 l1 l3 l4 l5 v3 v4 v15 h2
def fb_X12_splits_165 (n : Nat) (k7 : Nat → Int32 → Int32 → zH → Option (Unit × zH)) (l0 : Nat) (l1 : Int32) (l2 : Int32) (l3 : Int32) (l4 : Int32) (s0 : Nat) (s1 : Int32) (s2 : Int32) (h : zH) : Option (Unit × zH) :=
  zeI h s0 s1 s2 fun h1 =>
  zlp5 (fb_X12_splits_169 n k7 ) n l0 l1 l3 l4 l2 h1
def fb_X12_splits_100 (n : Nat) (k7 : Nat → Int32 → Int32 → zH → Option (Unit × zH)) (l0 : Nat) (l1 : Int32) (l2 : Int32) (l3 : Int32) (l4 : Int32) (h : zH) : Option (Unit × zH) :=
  zgR h 13 l0 17 fun v1 =>
  zgI h 13 l0 18 fun v2 =>
  zeI h v1 v2 l2 fun h3 =>
  zgR h3 13 l0 16 fun v4 =>
  zgI h3 13 l0 18 fun v5 =>
  zeI h3 v4 v5 0 fun h6 =>
  zgR h6 13 l0 15 fun v7 =>
  zgI h6 13 l0 18 fun v8 =>
  zb (f_X12_isSmall n l3 h6) fun r9 h10 =>
  if r9 = 0 then
    zb (f_X12_isDigit n l3 h10) fun r11 h12 =>
    if r11 = 0 then
      fb_X12_splits_165 n k7 l0 l1 l2 l3 l4 v7 v8 ((100 : Int32) + (l3 &&& 255)) h12
    else
      fb_X12_splits_165 n k7 l0 l1 l2 l3 l4 v7 v8 50 h12
  else
    zck h10 13 l0 (zb (f_X12_wordOf n l0 l2 l4 h10) fun r13 h14 =>
    fb_X12_splits_165 n k7 l0 l1 l2 l3 l4 v7 v8 r13 h14)
def fb_X12_splits_75 (n : Nat) (k7 : Nat → Int32 → Int32 → zH → Option (Unit × zH)) (k75 : Nat → Int32 → Int32 → Int32 → Int32 → zH → Option (Unit × zH)) (l0 : Nat) (l1 : Int32) (l2 : Int32) (l3 : Int32) (l4 : Int32) (h : zH) : Option (Unit × zH) :=
  if l1 ≤ l4 then
    fb_X12_splits_100 n k7 l0 l1 l2 l3 l4 h
  else
    zgR h 13 l0 11 fun v1 =>
    zaI h 23 v1 l4 fun v2 =>
    zb (f_X12_isDigit n v2 h) fun r3 h4 =>
    if r3 = 0 then
      fb_X12_splits_100 n k7 l0 l1 l2 l3 l4 h4
    else
      k75 l0 l1 l2 l3 (l4 + 1) h4
def fb_X12_splits_68 (n : Nat) (k7 : Nat → Int32 → Int32 → zH → Option (Unit × zH)) (l0 : Nat) (l1 : Int32) (l2 : Int32) (l3 : Int32) (l4 : Int32) (h : zH) : Option (Unit × zH) :=
  zb (f_X12_isDigit n l3 h) fun r1 h2 =>
  if r1 = 0 then
    fb_X12_splits_100 n k7 l0 l1 l2 l3 l4 h2
  else
    zlp5 (fb_X12_splits_75 n k7 ) n l0 l1 l2 l3 l4 h2
def fb_X12_splits_43 (n : Nat) (k7 : Nat → Int32 → Int32 → zH → Option (Unit × zH)) (k43 : Nat → Int32 → Int32 → Int32 → Int32 → zH → Option (Unit × zH)) (l0 : Nat) (l1 : Int32) (l2 : Int32) (l3 : Int32) (l4 : Int32) (h : zH) : Option (Unit × zH) :=
  if l1 ≤ l4 then
    fb_X12_splits_68 n k7 l0 l1 l2 l3 l4 h
  else
    zgR h 13 l0 11 fun v1 =>
    zaI h 23 v1 l4 fun v2 =>
    zb (f_X12_isSmall n v2 h) fun r3 h4 =>
    if r3 = 0 then
      fb_X12_splits_68 n k7 l0 l1 l2 l3 l4 h4
    else
      k43 l0 l1 l2 l3 (l4 + 1) h4
def fb_X12_splits_7 (n : Nat) (k7 : Nat → Int32 → Int32 → zH → Option (Unit × zH)) (l0 : Nat) (l1 : Int32) (l2 : Int32) (h : zH) : Option (Unit × zH) :=
  if l1 ≤ l2 then
    fb_X12_splits_263 n l0 l1 h
  else
    zgR h 13 l0 11 fun v1 =>
    zaI h 23 v1 l2 fun v2 =>
    if v2 = 32 then
      k7 l0 l1 (l2 + 1) h
    else
      zlt (l2 + 1) fun x3 =>
      zb (f_X12_isSmall n v2 h) fun r4 h5 =>
      if r4 = 0 then
        fb_X12_splits_68 n k7 l0 l1 l2 v2 x3 h5
      else
        zlp5 (fb_X12_splits_43 n k7 ) n l0 l1 l2 v2 x3 h5
def f_X12_splits (n : Nat) (a0 : Nat) (a1 : Int32) (h : zH) : Option (Unit × zH) :=
  zpI h 13 a0 18 0 fun h1 =>
  zlp3 (fb_X12_splits_7 n ) n a0 a1 0 h1
def f_X12_fine (n : Nat) (a0 : Nat) (h : zH) : Option (Int32 × zH) :=
  zgI h 13 a0 21 fun v1 =>
  if v1 = (-1) then
    some (1, h)
  else
    some (0, h)
def f_X12_faults (n : Nat) (a0 : Nat) (h : zH) : Option (Unit × zH) :=
  zck h 13 a0 (zb (f_X12_fine n a0 h) fun r1 h2 =>
  if r1 = 0 then
    some ((), h2)
  else
    zgR h2 13 a0 17 fun v3 =>
    zgI h2 13 a0 19 fun v4 =>
    zaI h2 21 v3 v4 fun v5 =>
    zpI h2 13 a0 21 v5 fun h6 =>
    some ((), h6))
def fb_X12_takes0_25 (n : Nat) (l0 : Nat) (s0 : Int32) (h : zH) : Option (Int32 × zH) :=
  if s0 = 0 then
    zrZ s0 h
  else
    zgI h 13 l0 19 fun v1 =>
    zpI h 13 l0 19 (v1 + 1) fun h2 =>
    zrZ s0 h2
def fb_X12_takes0_24 (n : Nat) (l0 : Nat) (h : zH) : Option (Int32 × zH) :=
  fb_X12_takes0_25 n l0 0 h
def f_X12_takes0 (n : Nat) (a0 : Nat) (a1 : Int32) (h : zH) : Option (Int32 × zH) :=
  zck h 13 a0 (zb (f_X12_fine n a0 h) fun r1 h2 =>
  if r1 = 0 then
    fb_X12_takes0_24 n a0 h2
  else
    zgR h2 13 a0 15 fun v3 =>
    zgI h2 13 a0 19 fun v4 =>
    zaI h2 21 v3 v4 fun v5 =>
    if v5 = a1 then
      fb_X12_takes0_25 n a0 1 h2
    else
      fb_X12_takes0_24 n a0 h2)
def f_X12_must (n : Nat) (a0 : Nat) (a1 : Int32) (h : zH) : Option (Unit × zH) :=
  zck h 13 a0 (zb (f_X12_takes0 n a0 a1 h) fun r1 h2 =>
  if r1 = 0 then
    zck h2 13 a0 (zb (f_X12_faults n a0 h2) fun _ h4 =>
    some ((), h4))
  else
    some ((), h2))
def fb_X12_leaf_13 (n : Nat) (l0 : Nat) (h : zH) : Option (Unit × zH) :=
  zgI h 13 l0 20 fun v1 =>
  zpI h 13 l0 20 (v1 + 1) fun h2 =>
  zck h2 13 l0 (zb (f_X12_fine n l0 h2) fun r3 h4 =>
  if r3 = 0 then
    some ((), h4)
  else
    zgI h4 13 l0 19 fun v5 =>
    zpI h4 13 l0 19 (v5 + 1) fun h6 =>
    some ((), h6))
def f_X12_leaf (n : Nat) (a0 : Nat) (h : zH) : Option (Unit × zH) :=
  zgI h 13 a0 20 fun v1 =>
  if v1 = 50 then
    zck h 13 a0 (zb (f_X12_faults n a0 h) fun _ h3 =>
    fb_X12_leaf_13 n a0 h3)
  else
    fb_X12_leaf_13 n a0 h
def fb_X12_mustNumber_42 (n : Nat) (l0 : Nat) (h : zH) : Option (Unit × zH) :=
  zck h 13 l0 (zb (f_X12_fine n l0 h) fun r1 h2 =>
  if r1 = 0 then
    some ((), h2)
  else
    zgI h2 13 l0 19 fun v3 =>
    zpI h2 13 l0 19 (v3 + 1) fun h4 =>
    some ((), h4))
def fb_X12_mustNumber_38 (n : Nat) (l0 : Nat) (h : zH) : Option (Unit × zH) :=
  zck h 13 l0 (zb (f_X12_faults n l0 h) fun _ h2 =>
  fb_X12_mustNumber_42 n l0 h2)
def f_X12_mustNumber (n : Nat) (a0 : Nat) (a1 : Int32) (a2 : Int32) (h : zH) : Option (Unit × zH) :=
  zck h 13 a0 (zb (f_X12_fine n a0 h) fun r1 h2 =>
  if r1 = 0 then
    fb_X12_mustNumber_42 n a0 h2
  else
    zgR h2 13 a0 15 fun v3 =>
    zgI h2 13 a0 19 fun v4 =>
    zaI h2 21 v3 v4 fun v5 =>
    if v5 = 50 then
      zgR h2 13 a0 16 fun v6 =>
      zgI h2 13 a0 19 fun v7 =>
      zaI h2 21 v6 v7 fun v8 =>
      zb (f_X12_lies n v8 a1 a2 h2) fun r9 h10 =>
      if r9 = 0 then
        fb_X12_mustNumber_38 n a0 h10
      else
        fb_X12_mustNumber_42 n a0 h10
    else
      fb_X12_mustNumber_38 n a0 h2)
def fb_X12_readPart_158 (n : Nat) (kH : Nat → Int32 → zH → Option (Unit × zH)) (l0 : Nat) (h : zH) : Option (Unit × zH) :=
  zck h 13 l0 (zb (f_X12_faults n l0 h) fun _ h2 =>
  some ((), h2))
def fb_X12_readPart_135 (n : Nat) (kH : Nat → Int32 → zH → Option (Unit × zH)) (l0 : Nat) (l2 : Int32) (h : zH) : Option (Unit × zH) :=
  zgI h 13 l0 10 fun v1 =>
  if v1 = 0 then
    some ((), h)
  else
    if l2 = 19 then
      zck h 13 l0 (zb (f_X12_mustNumber n l0 0 99 h) fun _ h3 =>
      some ((), h3))
    else
      some ((), h)
def fb_X12_readPart_111 (n : Nat) (kH : Nat → Int32 → zH → Option (Unit × zH)) (l0 : Nat) (l2 : Int32) (h : zH) : Option (Unit × zH) :=
  zck h 13 l0 (zb (f_X12_leaf n l0 h) fun _ h2 =>
  zgI h2 13 l0 10 fun v3 =>
  if v3 = 0 then
    fb_X12_readPart_135 n kH l0 l2 h2
  else
    if l2 = 18 then
      zck h2 13 l0 (zb (f_X12_mustNumber n l0 0 7 h2) fun _ h5 =>
      fb_X12_readPart_135 n kH l0 l2 h5)
    else
      fb_X12_readPart_135 n kH l0 l2 h2)
def fb_X12_readPart_95 (n : Nat) (kH : Nat → Int32 → zH → Option (Unit × zH)) (l0 : Nat) (l2 : Int32) (h : zH) : Option (Unit × zH) :=
  zgI h 13 l0 8 fun v1 =>
  if l2 < v1 then
    fb_X12_readPart_158 n kH l0 h
  else
    zgI h 13 l0 9 fun v2 =>
    if v2 < l2 then
      fb_X12_readPart_158 n kH l0 h
    else
      fb_X12_readPart_111 n kH l0 l2 h
def fb_X12_readPart_37 (n : Nat) (kH : Nat → Int32 → zH → Option (Unit × zH)) (l0 : Nat) (l1 : Int32) (h : zH) : Option (Unit × zH) :=
  zck h 13 l0 (zb (f_X12_fine n l0 h) fun r1 h2 =>
  if r1 = 0 then
    some ((), h2)
  else
    zgI h2 13 l0 19 fun v3 =>
    zpI h2 13 l0 19 (v3 + 1) fun h4 =>
    zck h4 13 l0 (zb (kH l0 (l1 + 1) h4) fun _ h6 =>
    zb (f_X12_sign n 93 h6) fun r7 h8 =>
    zck h8 13 l0 (zb (f_X12_must n l0 r7 h8) fun _ h10 =>
    some ((), h10))))
def f_X12_readPart (n : Nat) (kH : Nat → Int32 → zH → Option (Unit × zH)) (a0 : Nat) (a1 : Int32) (h : zH) : Option (Unit × zH) :=
  zck h 13 a0 (zb (f_X12_fine n a0 h) fun r1 h2 =>
  if r1 = 0 then
    some ((), h2)
  else
    zgR h2 13 a0 15 fun v3 =>
    zgI h2 13 a0 19 fun v4 =>
    zaI h2 21 v3 v4 fun v5 =>
    zb (f_X12_sign n 91 h2) fun r6 h7 =>
    if v5 = r6 then
      if a1 = 8 then
        zck h7 13 a0 (zb (f_X12_faults n a0 h7) fun _ h12 =>
        fb_X12_readPart_37 n kH a0 a1 h12)
      else
        fb_X12_readPart_37 n kH a0 a1 h7
    else
      if v5 = 50 then
        zgR h7 13 a0 16 fun v8 =>
        zgI h7 13 a0 19 fun v9 =>
        zaI h7 21 v8 v9 fun v10 =>
        if v10 ≤ 1000 then
          fb_X12_readPart_111 n kH a0 v5 h7
        else
          fb_X12_readPart_95 n kH a0 v5 h7
      else
        fb_X12_readPart_95 n kH a0 v5 h7)
def fb_X12_readTerm_41 (n : Nat) (kH : Nat → Int32 → zH → Option (Unit × zH)) (k5 : Nat → Int32 → zH → Option (Unit × zH)) (l0 : Nat) (l1 : Int32) (h : zH) : Option (Unit × zH) :=
  zck h 13 l0 (zb (f_X12_readPart n kH l0 l1 h) fun _ h2 =>
  k5 l0 l1 h2)
def fb_X12_readTerm_5 (n : Nat) (kH : Nat → Int32 → zH → Option (Unit × zH)) (k5 : Nat → Int32 → zH → Option (Unit × zH)) (l0 : Nat) (l1 : Int32) (h : zH) : Option (Unit × zH) :=
  zb (f_X12_sign n 42 h) fun r1 h2 =>
  zck h2 13 l0 (zb (f_X12_takes0 n l0 r1 h2) fun r3 h4 =>
  if r3 = 0 then
    zb (f_X12_sign n 47 h4) fun r5 h6 =>
    zck h6 13 l0 (zb (f_X12_takes0 n l0 r5 h6) fun r7 h8 =>
    if r7 = 0 then
      zb (f_X12_sign n 37 h8) fun r9 h10 =>
      zck h10 13 l0 (zb (f_X12_takes0 n l0 r9 h10) fun r11 h12 =>
      if r11 = 0 then
        some ((), h12)
      else
        fb_X12_readTerm_41 n kH k5 l0 l1 h12)
    else
      fb_X12_readTerm_41 n kH k5 l0 l1 h8)
  else
    fb_X12_readTerm_41 n kH k5 l0 l1 h4)
def f_X12_readTerm (n : Nat) (kH : Nat → Int32 → zH → Option (Unit × zH)) (a0 : Nat) (a1 : Int32) (h : zH) : Option (Unit × zH) :=
  zck h 13 a0 (zb (f_X12_readPart n kH a0 a1 h) fun _ h2 =>
  zlp2 (fb_X12_readTerm_5 n kH ) n a0 a1 h2)
def fb_X12_readSum_29 (n : Nat) (kH : Nat → Int32 → zH → Option (Unit × zH)) (k5 : Nat → Int32 → zH → Option (Unit × zH)) (l0 : Nat) (l1 : Int32) (h : zH) : Option (Unit × zH) :=
  zck h 13 l0 (zb (f_X12_readTerm n kH l0 l1 h) fun _ h2 =>
  k5 l0 l1 h2)
def fb_X12_readSum_5 (n : Nat) (kH : Nat → Int32 → zH → Option (Unit × zH)) (k5 : Nat → Int32 → zH → Option (Unit × zH)) (l0 : Nat) (l1 : Int32) (h : zH) : Option (Unit × zH) :=
  zb (f_X12_sign n 43 h) fun r1 h2 =>
  zck h2 13 l0 (zb (f_X12_takes0 n l0 r1 h2) fun r3 h4 =>
  if r3 = 0 then
    zb (f_X12_sign n 45 h4) fun r5 h6 =>
    zck h6 13 l0 (zb (f_X12_takes0 n l0 r5 h6) fun r7 h8 =>
    if r7 = 0 then
      some ((), h8)
    else
      fb_X12_readSum_29 n kH k5 l0 l1 h8)
  else
    fb_X12_readSum_29 n kH k5 l0 l1 h4)
def fB_X12_readSum (n : Nat) (kH : Nat → Int32 → zH → Option (Unit × zH)) (a0 : Nat) (a1 : Int32) (h : zH) : Option (Unit × zH) :=
  zck h 13 a0 (zb (f_X12_readTerm n kH a0 a1 h) fun _ h2 =>
  zlp2 (fb_X12_readSum_5 n kH ) n a0 a1 h2)
def f_X12_readSum (n : Nat) : Nat → Nat → Int32 → zH → Option (Unit × zH) := zlp2 (fB_X12_readSum n)
def fb_X12_readPlain_128 (n : Nat) (kH : Nat → Int32 → zH → Option (Unit × zH)) (l0 : Nat) (l1 : Int32) (h : zH) : Option (Unit × zH) :=
  zck h 13 l0 (zb (f_X12_readSum n 12 l0 l1 h) fun _ h2 =>
  some ((), h2))
def fb_X12_readPlain_53 (n : Nat) (kH : Nat → Int32 → zH → Option (Unit × zH)) (l0 : Nat) (l1 : Int32) (h : zH) : Option (Unit × zH) :=
  zck h 13 l0 (zb (f_X12_fine n l0 h) fun r1 h2 =>
  if r1 = 0 then
    some ((), h2)
  else
    zgI h2 13 l0 19 fun v3 =>
    zpI h2 13 l0 19 (v3 + 1) fun h4 =>
    zck h4 13 l0 (zb (kH l0 (l1 + 1) h4) fun _ h6 =>
    zb (f_X12_sign n 41 h6) fun r7 h8 =>
    zck h8 13 l0 (zb (f_X12_must n l0 r7 h8) fun _ h10 =>
    some ((), h10))))
def fb_X12_readPlain_16 (n : Nat) (kH : Nat → Int32 → zH → Option (Unit × zH)) (l0 : Nat) (l1 : Int32) (h : zH) : Option (Unit × zH) :=
  zck h 13 l0 (zb (f_X12_fine n l0 h) fun r1 h2 =>
  if r1 = 0 then
    some ((), h2)
  else
    zgR h2 13 l0 15 fun v3 =>
    zgI h2 13 l0 19 fun v4 =>
    zaI h2 21 v3 v4 fun v5 =>
    zb (f_X12_sign n 40 h2) fun r6 h7 =>
    if v5 = r6 then
      if l1 = 8 then
        zck h7 13 l0 (zb (f_X12_faults n l0 h7) fun _ h23 =>
        fb_X12_readPlain_53 n kH l0 l1 h23)
      else
        fb_X12_readPlain_53 n kH l0 l1 h7
    else
      zck h7 13 l0 (zb (f_X12_readSum n 12 l0 l1 h7) fun _ h9 =>
      zb (f_X12_sign n 60 h9) fun r10 h11 =>
      zck h11 13 l0 (zb (f_X12_takes0 n l0 r10 h11) fun r12 h13 =>
      if r12 = 0 then
        zb (f_X12_sign n 62 h13) fun r14 h15 =>
        zck h15 13 l0 (zb (f_X12_takes0 n l0 r14 h15) fun r16 h17 =>
        if r16 = 0 then
          zb (f_X12_sign n 61 h17) fun r18 h19 =>
          zck h19 13 l0 (zb (f_X12_must n l0 r18 h19) fun _ h21 =>
          fb_X12_readPlain_128 n kH l0 l1 h21)
        else
          fb_X12_readPlain_128 n kH l0 l1 h17)
      else
        fb_X12_readPlain_128 n kH l0 l1 h13)))
def fb_X12_readPlain_2 (n : Nat) (kH : Nat → Int32 → zH → Option (Unit × zH)) (k2 : Nat → Int32 → Int32 → zH → Option (Unit × zH)) (l0 : Nat) (l1 : Int32) (l2 : Int32) (h : zH) : Option (Unit × zH) :=
  if l2 = 0 then
    fb_X12_readPlain_16 n kH l0 l1 h
  else
    zck h 13 l0 (zb (f_X12_takes0 n l0 6 h) fun r1 h2 =>
    k2 l0 l1 r1 h2)
def f_X12_readPlain (n : Nat) (kH : Nat → Int32 → zH → Option (Unit × zH)) (a0 : Nat) (a1 : Int32) (h : zH) : Option (Unit × zH) :=
  zlp3 (fb_X12_readPlain_2 n kH ) n a0 a1 1 h
def fb_X12_readBoth_5 (n : Nat) (kH : Nat → Int32 → zH → Option (Unit × zH)) (k5 : Nat → Int32 → zH → Option (Unit × zH)) (l0 : Nat) (l1 : Int32) (h : zH) : Option (Unit × zH) :=
  zck h 13 l0 (zb (f_X12_takes0 n l0 5 h) fun r1 h2 =>
  if r1 = 0 then
    some ((), h2)
  else
    zck h2 13 l0 (zb (f_X12_readPlain n kH l0 l1 h2) fun _ h4 =>
    k5 l0 l1 h4))
def f_X12_readBoth (n : Nat) (kH : Nat → Int32 → zH → Option (Unit × zH)) (a0 : Nat) (a1 : Int32) (h : zH) : Option (Unit × zH) :=
  zck h 13 a0 (zb (f_X12_readPlain n kH a0 a1 h) fun _ h2 =>
  zlp2 (fb_X12_readBoth_5 n kH ) n a0 a1 h2)
def fb_X12_readTest_5 (n : Nat) (kH : Nat → Int32 → zH → Option (Unit × zH)) (k5 : Nat → Int32 → zH → Option (Unit × zH)) (l0 : Nat) (l1 : Int32) (h : zH) : Option (Unit × zH) :=
  zck h 13 l0 (zb (f_X12_takes0 n l0 4 h) fun r1 h2 =>
  if r1 = 0 then
    some ((), h2)
  else
    zck h2 13 l0 (zb (f_X12_readBoth n kH l0 l1 h2) fun _ h4 =>
    k5 l0 l1 h4))
def fB_X12_readTest (n : Nat) (kH : Nat → Int32 → zH → Option (Unit × zH)) (a0 : Nat) (a1 : Int32) (h : zH) : Option (Unit × zH) :=
  zck h 13 a0 (zb (f_X12_readBoth n kH a0 a1 h) fun _ h2 =>
  zlp2 (fb_X12_readTest_5 n kH ) n a0 a1 h2)
def f_X12_readTest (n : Nat) : Nat → Nat → Int32 → zH → Option (Unit × zH) := zlp2 (fB_X12_readTest n)
def fb_X12_readClause_21 (n : Nat) (l0 : Nat) (h : zH) : Option (Unit × zH) :=
  zck h 13 l0 (zb (f_X12_takes0 n l0 3 h) fun r1 h2 =>
  if r1 = 0 then
    some ((), h2)
  else
    zck h2 13 l0 (zb (f_X12_readTest n 12 l0 0 h2) fun _ h4 =>
    some ((), h4)))
def f_X12_readClause (n : Nat) (a0 : Nat) (h : zH) : Option (Unit × zH) :=
  zck h 13 a0 (zb (f_X12_takes0 n a0 1 h) fun r1 h2 =>
  if r1 = 0 then
    zck h2 13 a0 (zb (f_X12_must n a0 2 h2) fun _ h4 =>
    fb_X12_readClause_21 n a0 h4)
  else
    zck h2 13 a0 (zb (f_X12_readSum n 12 a0 0 h2) fun _ h6 =>
    fb_X12_readClause_21 n a0 h6))
def fb_X12_takesOneOf_29 (n : Nat) (l0 : Nat) (s0 : Int32) (h : zH) : Option (Int32 × zH) :=
  if s0 = 0 then
    zrZ s0 h
  else
    zgI h 13 l0 19 fun v1 =>
    zpI h 13 l0 19 (v1 + 1) fun h2 =>
    zrZ s0 h2
def fb_X12_takesOneOf_28 (n : Nat) (l0 : Nat) (h : zH) : Option (Int32 × zH) :=
  fb_X12_takesOneOf_29 n l0 0 h
def f_X12_takesOneOf (n : Nat) (a0 : Nat) (a1 : Int32) (a2 : Int32) (h : zH) : Option (Int32 × zH) :=
  zck h 13 a0 (zb (f_X12_fine n a0 h) fun r1 h2 =>
  if r1 = 0 then
    fb_X12_takesOneOf_28 n a0 h2
  else
    zgR h2 13 a0 15 fun v3 =>
    zgI h2 13 a0 19 fun v4 =>
    zaI h2 21 v3 v4 fun v5 =>
    zb (f_X12_lies n v5 a1 a2 h2) fun r6 h7 =>
    if r6 = 0 then
      fb_X12_takesOneOf_28 n a0 h7
    else
      fb_X12_takesOneOf_29 n a0 1 h7)
def fb_X12_readOrder_69 (n : Nat) (l0 : Nat) (h : zH) : Option (Unit × zH) :=
  zck h 13 l0 (zb (f_X12_takes0 n l0 3 h) fun r1 h2 =>
  if r1 = 0 then
    some ((), h2)
  else
    zck h2 13 l0 (zb (f_X12_readTest n 12 l0 0 h2) fun _ h4 =>
    some ((), h4)))
def fb_X12_readOrder_53 (n : Nat) (l0 : Nat) (h : zH) : Option (Unit × zH) :=
  zck h 13 l0 (zb (f_X12_takes0 n l0 29 h) fun r1 h2 =>
  if r1 = 0 then
    fb_X12_readOrder_69 n l0 h2
  else
    zck h2 13 l0 (zb (f_X12_mustNumber n l0 1 20 h2) fun _ h4 =>
    fb_X12_readOrder_69 n l0 h4))
def f_X12_readOrder (n : Nat) (a0 : Nat) (h : zH) : Option (Unit × zH) :=
  zck h 13 a0 (zb (f_X12_takes0 n a0 20 h) fun r1 h2 =>
  if r1 = 0 then
    zck h2 13 a0 (zb (f_X12_takesOneOf n a0 22 27 h2) fun r3 h4 =>
    if r3 = 0 then
      zck h4 13 a0 (zb (f_X12_must n a0 28 h4) fun _ h6 =>
      fb_X12_readOrder_53 n a0 h6)
    else
      zck h4 13 a0 (zb (f_X12_readSum n 12 a0 0 h4) fun _ h8 =>
      fb_X12_readOrder_53 n a0 h8))
  else
    zck h2 13 a0 (zb (f_X12_readSum n 12 a0 0 h2) fun _ h10 =>
    zck h10 13 a0 (zb (f_X12_must n a0 21 h10) fun _ h12 =>
    zck h12 13 a0 (zb (f_X12_readSum n 12 a0 0 h12) fun _ h14 =>
    fb_X12_readOrder_53 n a0 h14))))
def f_X12_readOne (n : Nat) (a0 : Nat) (h : zH) : Option (Unit × zH) :=
  zgI h 13 a0 10 fun v1 =>
  if v1 = 0 then
    zck h 13 a0 (zb (f_X12_readClause n a0 h) fun _ h3 =>
    some ((), h3))
  else
    zck h 13 a0 (zb (f_X12_readOrder n a0 h) fun _ h5 =>
    some ((), h5))
def fb_X12_reads_95 (n : Nat) (l0 : Nat) (h : zH) : Option (Int32 × zH) :=
  zgI h 13 l0 21 fun v1 =>
  zpI h 13 l0 14 v1 fun h2 =>
  zck h2 13 l0 (zb (f_X12_fine n l0 h2) fun r3 h4 =>
  zrZ r3 h4)
def fb_X12_reads_73 (n : Nat) (l0 : Nat) (h : zH) : Option (Int32 × zH) :=
  zck h 13 l0 (zb (f_X12_fine n l0 h) fun r1 h2 =>
  if r1 = 0 then
    fb_X12_reads_95 n l0 h2
  else
    zgI h2 13 l0 19 fun v3 =>
    zgI h2 13 l0 18 fun v4 =>
    if v4 ≤ v3 then
      fb_X12_reads_95 n l0 h2
    else
      zck h2 13 l0 (zb (f_X12_faults n l0 h2) fun _ h6 =>
      fb_X12_reads_95 n l0 h6))
def fb_X12_reads_67 (n : Nat) (k34 : Nat → Int32 → zH → Option (Int32 × zH)) (l0 : Nat) (l1 : Int32) (h : zH) : Option (Int32 × zH) :=
  k34 l0 (l1 + 1) h
def fb_X12_reads_56 (n : Nat) (k34 : Nat → Int32 → zH → Option (Int32 × zH)) (l0 : Nat) (l1 : Int32) (h : zH) : Option (Int32 × zH) :=
  zck h 13 l0 (zb (f_X12_fine n l0 h) fun r1 h2 =>
  if r1 = 0 then
    fb_X12_reads_67 n k34 l0 l1 h2
  else
    zck h2 13 l0 (zb (f_X12_readOne n l0 h2) fun _ h4 =>
    fb_X12_reads_67 n k34 l0 l1 h4))
def fb_X12_reads_34 (n : Nat) (k34 : Nat → Int32 → zH → Option (Int32 × zH)) (l0 : Nat) (l1 : Int32) (h : zH) : Option (Int32 × zH) :=
  zb (f_X12_sign n 59 h) fun r1 h2 =>
  zck h2 13 l0 (zb (f_X12_takes0 n l0 r1 h2) fun r3 h4 =>
  if r3 = 0 then
    fb_X12_reads_73 n l0 h4
  else
    if l1 = 12 then
      zck h4 13 l0 (zb (f_X12_faults n l0 h4) fun _ h6 =>
      fb_X12_reads_56 n k34 l0 l1 h6)
    else
      fb_X12_reads_56 n k34 l0 l1 h4)
def f_X12_reads (n : Nat) (a0 : Nat) (h : zH) : Option (Int32 × zH) :=
  zgI h 13 a0 13 fun v1 =>
  zck h 13 a0 (zb (f_X12_splits n a0 v1 h) fun _ h3 =>
  zpI h3 13 a0 13 0 fun h4 =>
  zpI h4 13 a0 19 0 fun h5 =>
  zpI h5 13 a0 20 0 fun h6 =>
  zpI h6 13 a0 21 (-1) fun h7 =>
  zck h7 13 a0 (zb (f_X12_readOne n a0 h7) fun _ h9 =>
  zlp2 (fb_X12_reads_34 n ) n a0 1 h9))
def fb_X12_readsAs_32 (n : Nat) (l0 : Nat) (s0 : Nat) (s1 : Int32) (h : zH) : Option (Int32 × zH) :=
  zpI h 13 s0 9 s1 fun h1 =>
  zck h1 13 l0 (zb (f_X12_reads n l0 h1) fun r2 h3 =>
  zrZ r2 h3)
def fb_X12_readsAs_17 (n : Nat) (l0 : Nat) (l1 : Int32) (s0 : Nat) (s1 : Int32) (h : zH) : Option (Int32 × zH) :=
  zpI h 13 s0 8 s1 fun h1 =>
  if l1 = 0 then
    fb_X12_readsAs_32 n l0 l0 13 h1
  else
    fb_X12_readsAs_32 n l0 l0 19 h1
def f_X12_readsAs (n : Nat) (a0 : Nat) (a1 : Int32) (h : zH) : Option (Int32 × zH) :=
  zpZ h 13 a0 10 a1 fun h1 =>
  if a1 = 0 then
    fb_X12_readsAs_17 n a0 a1 a0 7 h1
  else
    fb_X12_readsAs_17 n a0 a1 a0 13 h1
def fb_X12_lays_16 (n : Nat) (k16 : Nat → Int32 → Int32 → zH → Option (Unit × zH)) (l0 : Nat) (l1 : Int32) (l2 : Int32) (h : zH) : Option (Unit × zH) :=
  zgI h 13 l0 18 fun v1 =>
  if v1 ≤ l2 then
    some ((), h)
  else
    zgR h 13 l0 2 fun v2 =>
    zgR h 13 l0 15 fun v3 =>
    zaI h 21 v3 l2 fun v4 =>
    zeI h v2 (((215 : Int32) + ((400 : Int32) * l1)) + l2) v4 fun h5 =>
    zgR h5 13 l0 2 fun v6 =>
    zgR h5 13 l0 16 fun v7 =>
    zaI h5 21 v7 l2 fun v8 =>
    zeI h5 v6 (((3015 : Int32) + ((400 : Int32) * l1)) + l2) v8 fun h9 =>
    k16 l0 l1 (l2 + 1) h9
def f_X12_lays (n : Nat) (a0 : Nat) (a1 : Int32) (h : zH) : Option (Unit × zH) :=
  zgR h 13 a0 2 fun v1 =>
  zgI h 13 a0 18 fun v2 =>
  zeI h v1 ((208 : Int32) + a1) v2 fun h3 =>
  zlp3 (fb_X12_lays_16 n ) n a0 a1 0 h3
def f_X12_law (n : Nat) (a0 : Nat) (h : zH) : Option (Int32 × zH) :=
  zgR h 13 a0 2 fun v1 =>
  zaI h 21 v1 206 fun v2 =>
  if v2 = 6 then
    zpI h 13 a0 13 0 fun h18 =>
    zck h18 13 a0 (zb (f_X12_refuses n a0 (-5) h18) fun r19 h20 =>
    some (r19, h20))
  else
    zck h 13 a0 (zb (f_X12_readsAs n a0 0 h) fun r3 h4 =>
    if r3 = 0 then
      zck h4 13 a0 (zb (f_X12_refuses n a0 (-6) h4) fun r16 h17 =>
      some (r16, h17))
    else
      zgR h4 13 a0 2 fun v5 =>
      zaI h4 21 v5 206 fun v6 =>
      zck h4 13 a0 (zb (f_X12_lays n a0 v6 h4) fun _ h8 =>
      zgR h8 13 a0 2 fun v9 =>
      zaI h8 21 v9 206 fun v10 =>
      zeI h8 v9 206 (v10 + 1) fun h11 =>
      zgR h11 13 a0 2 fun v12 =>
      zaI h11 21 v12 206 fun v13 =>
      zck h11 13 a0 (zb (f_X12_good n a0 (v13 - 1) h11) fun r14 h15 =>
      some (r14, h15))))
def f_X12_fault (n : Nat) (a0 : Nat) (h : zH) : Option (Int32 × zH) :=
  zgI h 13 a0 14 fun v1 =>
  some (v1, h)
def f_X12_isLaw (n : Nat) (a0 : Nat) (a1 : Int32) (h : zH) : Option (Int32 × zH) :=
  zgR h 13 a0 2 fun v1 =>
  zaI h 21 v1 206 fun v2 =>
  zb (f_X12_lies n a1 (-1) (v2 - 1) h) fun r3 h4 =>
  zrZ r3 h4
def f_X12_force (n : Nat) (a0 : Nat) (a1 : Int32) (h : zH) : Option (Int32 × zH) :=
  zck h 13 a0 (zb (f_X12_isLaw n a0 a1 h) fun r1 h2 =>
  if r1 = 0 then
    zck h2 13 a0 (zb (f_X12_refuses n a0 (-2) h2) fun r9 h10 =>
    some (r9, h10))
  else
    zgR h2 13 a0 2 fun v3 =>
    zaI h2 21 v3 207 fun v4 =>
    zgR h2 13 a0 2 fun v5 =>
    zeI h2 v5 207 a1 fun h6 =>
    zck h6 13 a0 (zb (f_X12_good n a0 v4 h6) fun r7 h8 =>
    some (r7, h8)))
def f_X12_costsAt (n : Nat) (a0 : Nat) (a1 : Int32) (a2 : Int32) (h : zH) : Option (Int32 × zH) :=
  zb (f_X12_levelOf n a1 h) fun r1 h2 =>
  zgR h2 13 a0 2 fun v3 =>
  zaI h2 21 v3 164 fun v4 =>
  zck h2 13 a0 (zb (f_X12_setsAsked n a0 a1 r1 a2 v4 (-1) h2) fun _ h6 =>
  zck h6 13 a0 (zb (f_X12_tells n a0 1 1 h6) fun r7 h8 =>
  some (r7, h8)))
def f_X12_drops (n : Nat) (a0 : Nat) (a1 : Int32) (h : zH) : Option (Int32 × zH) :=
  zb (f_X12_isKey n a1 h) fun r1 h2 =>
  if r1 = 0 then
    some ((-1), h2)
  else
    zck h2 13 a0 (zb (f_X12_linkTo n a0 a1 h2) fun r3 h4 =>
    zgR h4 13 a0 2 fun v5 =>
    zaI h4 21 v5 r3 fun v6 =>
    if v6 = (-1) then
      some ((-3), h4)
    else
      zgR h4 13 a0 2 fun v7 =>
      zaI h4 21 v7 ((24 : Int32) + v6) fun v8 =>
      if v8 = a1 then
        zgR h4 13 a0 2 fun v9 =>
        zgR h4 13 a0 2 fun v10 =>
        zaI h4 21 v10 ((72 : Int32) + v6) fun v11 =>
        zeI h4 v9 r3 v11 fun h12 =>
        zck h12 13 a0 (zb (f_X12_ages n a0 v6 h12) fun _ h14 =>
        some (v6, h14))
      else
        some ((-3), h4))
def f_X12_enters (n : Nat) (a0 : Nat) (a1 : Int32) (h : zH) : Option (Int32 × zH) :=
  zb (f_X12_isProcessor n a1 h) fun r1 h2 =>
  if r1 = 0 then
    some ((-1), h2)
  else
    zck h2 13 a0 (zb (f_X12_isOn n a0 a1 h2) fun r3 h4 =>
    if r3 = 0 then
      zgR h4 13 a0 2 fun v5 =>
      zeI h4 v5 ((97 : Int32) + a1) 1 fun h6 =>
      zgR h6 13 a0 2 fun v7 =>
      zgR h6 13 a0 2 fun v8 =>
      zaI h6 21 v8 96 fun v9 =>
      zeI h6 v7 ((105 : Int32) + a1) v9 fun h10 =>
      zgR h10 13 a0 2 fun v11 =>
      zeI h10 v11 ((113 : Int32) + a1) 0 fun h12 =>
      zgR h12 13 a0 2 fun v13 =>
      zaI h12 21 v13 96 fun v14 =>
      some ((1 : Int32) + v14, h12)
    else
      some ((-3), h4))
def f_X12_steps (n : Nat) (a0 : Nat) (a1 : Int32) (h : zH) : Option (Int32 × zH) :=
  zb (f_X12_isProcessor n a1 h) fun r1 h2 =>
  if r1 = 0 then
    some ((-1), h2)
  else
    zck h2 13 a0 (zb (f_X12_isParked n a0 a1 h2) fun r3 h4 =>
    if r3 = 0 then
      zck h4 13 a0 (zb (f_X12_cellOf n a0 a1 h4) fun r5 h6 =>
      if r5 = (-1) then
        some ((-3), h6)
      else
        zgR h6 13 a0 2 fun v7 =>
        zgR h6 13 a0 2 fun v8 =>
        zgR h6 13 a0 2 fun v9 =>
        zaI h6 21 v9 ((105 : Int32) + a1) fun v10 =>
        zaI h6 21 v8 ((72 : Int32) + v10) fun v11 =>
        zeI h6 v7 ((105 : Int32) + a1) v11 fun h12 =>
        zgR h12 13 a0 2 fun v13 =>
        zaI h12 21 v13 ((105 : Int32) + a1) fun v14 =>
        some ((1 : Int32) + v14, h12))
    else
      some ((-3), h4))
def fb_X12_parks_59 (n : Nat) (l0 : Nat) (l1 : Int32) (s0 : Nat) (s1 : Int32) (s2 : Int32) (h : zH) : Option (Int32 × zH) :=
  zeI h s0 s1 s2 fun h1 =>
  zlt (l1 - (l1 - l1 / 2 * 2)) fun x2 =>
  zgR h1 13 l0 2 fun v3 =>
  zaI h1 21 v3 ((113 : Int32) + x2) fun v4 =>
  zgR h1 13 l0 2 fun v5 =>
  zaI h1 21 v5 (((113 : Int32) + x2) + 1) fun v6 =>
  some (v4 + v6, h1)
def f_X12_parks (n : Nat) (a0 : Nat) (a1 : Int32) (h : zH) : Option (Int32 × zH) :=
  zb (f_X12_isProcessor n a1 h) fun r1 h2 =>
  if r1 = 0 then
    some ((-1), h2)
  else
    zck h2 13 a0 (zb (f_X12_isOn n a0 a1 h2) fun r3 h4 =>
    if r3 = 0 then
      some ((-3), h4)
    else
      zck h4 13 a0 (zb (f_X12_isParked n a0 a1 h4) fun r5 h6 =>
      if r5 = 0 then
        zgR h6 13 a0 2 fun v7 =>
        zeI h6 v7 ((113 : Int32) + a1) 1 fun h8 =>
        zgR h8 13 a0 2 fun v9 =>
        zck h8 13 a0 (zb (f_X12_hasReported n a0 a1 h8) fun r10 h11 =>
        if r10 = 0 then
          fb_X12_parks_59 n a0 a1 v9 ((121 : Int32) + a1) 1 h11
        else
          fb_X12_parks_59 n a0 a1 v9 ((121 : Int32) + a1) 0 h11)
      else
        some ((-3), h6)))
def f_X12_reports (n : Nat) (a0 : Nat) (a1 : Int32) (a2 : Int32) (h : zH) : Option (Unit × zH) :=
  zck h 13 a0 (zb (f_X12_costsAt n a0 a1 a2 h) fun r1 h2 =>
  zgR h2 13 a0 2 fun v3 =>
  zaI h2 21 v3 189 fun v4 =>
  zeI h2 v3 189 (v4 + r1) fun h5 =>
  zgR h5 13 a0 2 fun v6 =>
  zaI h5 21 v6 ((131 : Int32) + a1) fun v7 =>
  zeI h5 v6 ((131 : Int32) + a1) (v7 &&& (((1 : Int32) <<< (a2 &&& 31)) ^^^ (-1))) fun h8 =>
  some ((), h8))
def fb_X12_begins_113 (n : Nat) (k113 : Nat → Int32 → zH → Option (Unit × zH)) (l0 : Nat) (l1 : Int32) (h : zH) : Option (Unit × zH) :=
  if 8 ≤ l1 then
    some ((), h)
  else
    zgR h 13 l0 2 fun v1 =>
    zgR h 13 l0 2 fun v2 =>
    zaI h 21 v2 ((113 : Int32) + l1) fun v3 =>
    zeI h v1 ((121 : Int32) + l1) v3 fun h4 =>
    k113 l0 (l1 + 1) h4
def fb_X12_begins_111 (n : Nat) (l0 : Nat) (h : zH) : Option (Unit × zH) :=
  zlp2 (fb_X12_begins_113 n ) n l0 0 h
def fb_X12_begins_88 (n : Nat) (k88 : Nat → Int32 → zH → Option (Unit × zH)) (l0 : Nat) (l1 : Int32) (h : zH) : Option (Unit × zH) :=
  if 7 < l1 then
    fb_X12_begins_111 n l0 h
  else
    zgR h 13 l0 2 fun v1 =>
    zeI h v1 ((131 : Int32) + l1) 3 fun h2 =>
    k88 l0 (l1 + 1) h2
def fb_X12_begins_77 (n : Nat) (l0 : Nat) (h : zH) : Option (Unit × zH) :=
  zgR h 13 l0 2 fun v1 =>
  zeI h v1 139 0 fun h2 =>
  zlp2 (fb_X12_begins_88 n ) n l0 1 h2
def fb_X12_begins_39 (n : Nat) (k39 : Nat → Int32 → zH → Option (Unit × zH)) (l0 : Nat) (l1 : Int32) (h : zH) : Option (Unit × zH) :=
  zgR h 13 l0 2 fun v1 =>
  zaI h 21 v1 139 fun v2 =>
  if v2 ≤ l1 then
    fb_X12_begins_77 n l0 h
  else
    zgR h 13 l0 2 fun v3 =>
    zgR h 13 l0 2 fun v4 =>
    zaI h 21 v4 ((140 : Int32) + l1) fun v5 =>
    zeI h v3 ((165 : Int32) + l1) v5 fun h6 =>
    k39 l0 (l1 + 1) h6
def f_X12_begins (n : Nat) (a0 : Nat) (h : zH) : Option (Unit × zH) :=
  zgR h 13 a0 2 fun v1 =>
  zeI h v1 129 1 fun h2 =>
  zgR h2 13 a0 2 fun v3 =>
  zaI h2 21 v3 130 fun v4 =>
  zeI h2 v3 130 (v4 + 1) fun h5 =>
  zgR h5 13 a0 2 fun v6 =>
  zgR h5 13 a0 2 fun v7 =>
  zaI h5 21 v7 139 fun v8 =>
  zeI h5 v6 164 v8 fun h9 =>
  zlp2 (fb_X12_begins_39 n ) n a0 0 h9
def fb_X12_endsNow_40 (n : Nat) (l0 : Nat) (l1 : Int32) (h : zH) : Option (Int32 × zH) :=
  zgR h 13 l0 2 fun v1 =>
  zeI h v1 164 0 fun h2 =>
  zgR h2 13 l0 2 fun v3 =>
  zeI h2 v3 129 0 fun h4 =>
  zgR h4 13 l0 2 fun v5 =>
  zgR h4 13 l0 2 fun v6 =>
  zaI h4 21 v6 190 fun v7 =>
  zb (f_X12_lesser n 999 (v7 + 1) h4) fun r8 h9 =>
  zeI h9 v5 190 r8 fun h10 =>
  zgR h10 13 l0 2 fun v11 =>
  zaI h10 21 v11 139 fun v12 =>
  if v12 ≤ 0 then
    some (l1, h10)
  else
    zck h10 13 l0 (zb (f_X12_begins n l0 h10) fun _ h14 =>
    some (l1, h14))
def fb_X12_endsNow_11 (n : Nat) (k11 : Nat → Int32 → Int32 → zH → Option (Int32 × zH)) (l0 : Nat) (l1 : Int32) (l2 : Int32) (h : zH) : Option (Int32 × zH) :=
  if l1 ≤ l2 then
    fb_X12_endsNow_40 n l0 l1 h
  else
    zgR h 13 l0 2 fun v1 =>
    zgR h 13 l0 2 fun v2 =>
    zaI h 21 v2 ((165 : Int32) + l2) fun v3 =>
    zeI h v1 ((0 : Int32) + v3) 0 fun h4 =>
    k11 l0 l1 (l2 + 1) h4
def f_X12_endsNow (n : Nat) (a0 : Nat) (h : zH) : Option (Int32 × zH) :=
  zgR h 13 a0 2 fun v1 =>
  zaI h 21 v1 164 fun v2 =>
  zlp3 (fb_X12_endsNow_11 n ) n a0 v2 0 h
def fb_X12_looksAt_76 (n : Nat) (l0 : Nat) (l3 : Int32) (h : zH) : Option (Int32 × zH) :=
  if l3 = 1 then
    zgR h 13 l0 2 fun v1 =>
    zaI h 21 v1 ((131 : Int32) + l3) fun v2 =>
    if v2 = 0 then
      zck h 13 l0 (zb (f_X12_endsNow n l0 h) fun r3 h4 =>
      some (r3, h4))
    else
      some (0, h)
  else
    some (0, h)
def fb_X12_looksAt_41 (n : Nat) (k41 : Nat → Int32 → zH → Option (Int32 × zH)) (l0 : Nat) (l3 : Int32) (h : zH) : Option (Int32 × zH) :=
  if l3 ≤ 1 then
    fb_X12_looksAt_76 n l0 l3 h
  else
    zgR h 13 l0 2 fun v1 =>
    zaI h 21 v1 ((131 : Int32) + l3) fun v2 =>
    if v2 = 0 then
      zck h 13 l0 (zb (f_X12_reports n l0 (l3 / 2) (l3 - l3 / 2 * 2) h) fun _ h4 =>
      zlt (l3 / 2) fun x5 =>
      k41 l0 x5 h4)
    else
      fb_X12_looksAt_76 n l0 l3 h
def f_X12_looksAt (n : Nat) (a0 : Nat) (a1 : Int32) (h : zH) : Option (Int32 × zH) :=
  zlt ((2 : Int32) * (a1 - 4)) fun x1 =>
  zgR h 13 a0 2 fun v2 =>
  zaI h 21 v2 ((131 : Int32) + a1) fun v3 =>
  if v3 = 0 then
    zck h 13 a0 (zb (f_X12_isHeld n a0 x1 h) fun r4 h5 =>
    if r4 = 0 then
      zck h5 13 a0 (zb (f_X12_isHeld n a0 (x1 + 1) h5) fun r6 h7 =>
      if r6 = 0 then
        zlp2 (fb_X12_looksAt_41 n ) n a0 a1 h7
      else
        some (0, h7))
    else
      some (0, h5))
  else
    some (0, h)
def f_X12_leaves0 (n : Nat) (a0 : Nat) (a1 : Int32) (h : zH) : Option (Int32 × zH) :=
  zb (f_X12_isProcessor n a1 h) fun r1 h2 =>
  if r1 = 0 then
    some ((-1), h2)
  else
    zck h2 13 a0 (zb (f_X12_isOn n a0 a1 h2) fun r3 h4 =>
    if r3 = 0 then
      some ((-3), h4)
    else
      zck h4 13 a0 (zb (f_X12_isHeld n a0 a1 h4) fun r5 h6 =>
      zgR h6 13 a0 2 fun v7 =>
      zeI h6 v7 ((97 : Int32) + a1) 0 fun h8 =>
      zgR h8 13 a0 2 fun v9 =>
      zeI h8 v9 ((113 : Int32) + a1) 0 fun h10 =>
      zgR h10 13 a0 2 fun v11 =>
      zeI h10 v11 ((121 : Int32) + a1) 0 fun h12 =>
      if r5 = 0 then
        some (0, h12)
      else
        zb (f_X12_leafOf n a1 h12) fun r13 h14 =>
        zck h14 13 a0 (zb (f_X12_looksAt n a0 r13 h14) fun r15 h16 =>
        some (r15, h16))))
def f_X12_beginsOr (n : Nat) (a0 : Nat) (h : zH) : Option (Int32 × zH) :=
  zck h 13 a0 (zb (f_X12_runs0 n a0 h) fun r1 h2 =>
  if r1 = 0 then
    zgR h2 13 a0 2 fun v3 =>
    zaI h2 21 v3 139 fun v4 =>
    if v4 = 0 then
      some ((-3), h2)
    else
      zck h2 13 a0 (zb (f_X12_begins n a0 h2) fun _ h6 =>
      zgR h6 13 a0 2 fun v7 =>
      zaI h6 21 v7 130 fun v8 =>
      some (v8, h6))
  else
    some ((-3), h2))
def f_X12_canTick (n : Nat) (a0 : Nat) (a1 : Int32) (h : zH) : Option (Int32 × zH) :=
  zck h 13 a0 (zb (f_X12_isOn n a0 a1 h) fun r1 h2 =>
  if r1 = 0 then
    some (1, h2)
  else
    zck h2 13 a0 (zb (f_X12_isParked n a0 a1 h2) fun r3 h4 =>
    if r3 = 0 then
      some (0, h4)
    else
      some (1, h4)))
def f_X12_ticks (n : Nat) (a0 : Nat) (a1 : Int32) (h : zH) : Option (Int32 × zH) :=
  zb (f_X12_isProcessor n a1 h) fun r1 h2 =>
  if r1 = 0 then
    some ((-1), h2)
  else
    zck h2 13 a0 (zb (f_X12_canTick n a0 a1 h2) fun r3 h4 =>
    if r3 = 0 then
      some ((-3), h4)
    else
      zck h4 13 a0 (zb (f_X12_hasReported n a0 a1 h4) fun r5 h6 =>
      if r5 = 0 then
        zb (f_X12_leafOf n a1 h6) fun r7 h8 =>
        zck h8 13 a0 (zb (f_X12_reports n a0 r7 (a1 - a1 / 2 * 2) h8) fun _ h10 =>
        zb (f_X12_leafOf n a1 h10) fun r11 h12 =>
        zck h12 13 a0 (zb (f_X12_looksAt n a0 r11 h12) fun r13 h14 =>
        some (r13, h14)))
      else
        some (0, h6)))
def fb_X12_hurries_72 (n : Nat) (k23 : Nat → Int32 → Int32 → Int32 → zH → Option (Int32 × zH)) (l0 : Nat) (l1 : Int32) (l2 : Int32) (l3 : Int32) (h : zH) : Option (Int32 × zH) :=
  k23 l0 l1 l2 (l3 + 1) h
def fb_X12_hurries_23 (n : Nat) (k23 : Nat → Int32 → Int32 → Int32 → zH → Option (Int32 × zH)) (l0 : Nat) (l1 : Int32) (l2 : Int32) (l3 : Int32) (h : zH) : Option (Int32 × zH) :=
  if 8 ≤ l3 then
    some (l2, h)
  else
    zck h 13 l0 (zb (f_X12_runs0 n l0 h) fun r1 h2 =>
    if r1 = 0 then
      some (l2, h2)
    else
      zgR h2 13 l0 2 fun v3 =>
      zaI h2 21 v3 130 fun v4 =>
      if v4 = l1 then
        zck h2 13 l0 (zb (f_X12_canTick n l0 l3 h2) fun r5 h6 =>
        if r5 = 0 then
          fb_X12_hurries_72 n k23 l0 l1 l2 l3 h6
        else
          zck h6 13 l0 (zb (f_X12_hasReported n l0 l3 h6) fun r7 h8 =>
          if r7 = 0 then
            zck h8 13 l0 (zb (f_X12_ticks n l0 l3 h8) fun r9 h10 =>
            zlt (l2 + r9) fun x11 =>
            fb_X12_hurries_72 n k23 l0 l1 x11 l3 h10)
          else
            fb_X12_hurries_72 n k23 l0 l1 l2 l3 h8))
      else
        some (l2, h2))
def f_X12_hurries (n : Nat) (a0 : Nat) (h : zH) : Option (Int32 × zH) :=
  zck h 13 a0 (zb (f_X12_runs0 n a0 h) fun r1 h2 =>
  if r1 = 0 then
    some ((-3), h2)
  else
    zgR h2 13 a0 2 fun v3 =>
    zaI h2 21 v3 130 fun v4 =>
    zlp4 (fb_X12_hurries_23 n ) n a0 v4 0 0 h2)
def fb_X12_keptOr_105 (n : Nat) (l0 : Nat) (l1 : Int32) (l2 : Int32) (l3 : Int32) (h : zH) : Option (Int32 × zH) :=
  zgR h 13 l0 29 fun v1 =>
  zgI h 13 l0 31 fun v2 =>
  zeI h v1 ((l3 * v2) + 191) l1 fun h3 =>
  zgI h3 13 l0 31 fun v4 =>
  zpI h3 13 l0 31 (v4 + 1) fun h5 =>
  some (l2, h5)
def fb_X12_keptOr_66 (n : Nat) (k66 : Nat → Int32 → Int32 → Int32 → Int32 → zH → Option (Int32 × zH)) (l0 : Nat) (l1 : Int32) (l2 : Int32) (l3 : Int32) (l4 : Int32) (h : zH) : Option (Int32 × zH) :=
  if 191 ≤ l4 then
    fb_X12_keptOr_105 n l0 l1 l2 l3 h
  else
    zgR h 13 l0 29 fun v1 =>
    zgI h 13 l0 31 fun v2 =>
    zgR h 13 l0 5 fun v3 =>
    zaI h 21 v3 ((382 : Int32) + l4) fun v4 =>
    zeI h v1 ((l3 * v2) + l4) v4 fun h5 =>
    k66 l0 l1 l2 l3 (l4 + 1) h5
def fb_X12_keptOr_63 (n : Nat) (l0 : Nat) (l1 : Int32) (l2 : Int32) (l3 : Int32) (h : zH) : Option (Int32 × zH) :=
  zlp5 (fb_X12_keptOr_66 n ) n l0 l1 l2 l3 0 h
def fb_X12_keptOr_53 (n : Nat) (l0 : Nat) (l1 : Int32) (l2 : Int32) (l3 : Int32) (h : zH) : Option (Int32 × zH) :=
  zgI h 13 l0 31 fun v1 =>
  zpI h 13 l0 31 (v1 - 1) fun h2 =>
  fb_X12_keptOr_63 n l0 l1 l2 l3 h2
def fb_X12_keptOr_22 (n : Nat) (k22 : Nat → Int32 → Int32 → Int32 → Int32 → zH → Option (Int32 × zH)) (l0 : Nat) (l1 : Int32) (l2 : Int32) (l3 : Int32) (l4 : Int32) (h : zH) : Option (Int32 × zH) :=
  if (15 : Int32) * l3 ≤ l4 then
    fb_X12_keptOr_53 n l0 l1 l2 l3 h
  else
    zgR h 13 l0 29 fun v1 =>
    zgR h 13 l0 29 fun v2 =>
    zaI h 21 v2 (l4 + l3) fun v3 =>
    zeI h v1 l4 v3 fun h4 =>
    k22 l0 l1 l2 l3 (l4 + 1) h4
def f_X12_keptOr (n : Nat) (a0 : Nat) (a1 : Int32) (a2 : Int32) (h : zH) : Option (Int32 × zH) :=
  if 0 ≤ a2 then
    zgI h 13 a0 31 fun v1 =>
    if v1 = 16 then
      zlp5 (fb_X12_keptOr_22 n ) n a0 a1 a2 192 0 h
    else
      fb_X12_keptOr_63 n a0 a1 a2 192 h
  else
    some (a2, h)
def fb_X12_undo_62 (n : Nat) (l0 : Nat) (l1 : Int32) (h : zH) : Option (Int32 × zH) :=
  zgR h 13 l0 29 fun v1 =>
  zaI h 21 v1 (l1 + 191) fun v2 =>
  zck h 13 l0 (zb (f_X12_good n l0 v2 h) fun r3 h4 =>
  some (r3, h4))
def fb_X12_undo_35 (n : Nat) (k35 : Nat → Int32 → Int32 → zH → Option (Int32 × zH)) (l0 : Nat) (l1 : Int32) (l2 : Int32) (h : zH) : Option (Int32 × zH) :=
  if 191 ≤ l2 then
    fb_X12_undo_62 n l0 l1 h
  else
    zgR h 13 l0 2 fun v1 =>
    zgR h 13 l0 29 fun v2 =>
    zaI h 21 v2 (l1 + l2) fun v3 =>
    zeI h v1 l2 v3 fun h4 =>
    k35 l0 l1 (l2 + 1) h4
def f_X12_undo (n : Nat) (a0 : Nat) (h : zH) : Option (Int32 × zH) :=
  zgI h 13 a0 31 fun v1 =>
  if v1 = 0 then
    zck h 13 a0 (zb (f_X12_refuses n a0 (-3) h) fun r6 h7 =>
    some (r6, h7))
  else
    zgI h 13 a0 31 fun v2 =>
    zpI h 13 a0 31 (v2 - 1) fun h3 =>
    zgI h3 13 a0 31 fun v4 =>
    zlt ((192 : Int32) * v4) fun x5 =>
    zlp3 (fb_X12_undo_35 n ) n a0 x5 0 h3
def f_X12_goodOr (n : Nat) (a0 : Nat) (a1 : Int32) (h : zH) : Option (Int32 × zH) :=
  if 0 ≤ a1 then
    zck h 13 a0 (zb (f_X12_good n a0 a1 h) fun r1 h2 =>
    some (r1, h2))
  else
    zck h 13 a0 (zb (f_X12_refuses n a0 a1 h) fun r3 h4 =>
    some (r3, h4))
def f_X12_acts (n : Nat) (a0 : Nat) (a1 : Int32) (a2 : Int32) (a3 : Int32) (h : zH) : Option (Int32 × zH) :=
  zswl a1 [
    (0, 48,
      zck h 13 a0 (zb (f_X12_puts n a0 a2 a3 h) fun r1 h2 =>
      some (r1, h2))),
    (1, 55,
      zck h 13 a0 (zb (f_X12_drops n a0 a2 h) fun r3 h4 =>
      some (r3, h4))),
    (2, 61,
      zck h 13 a0 (zb (f_X12_enters n a0 a2 h) fun r5 h6 =>
      some (r5, h6))),
    (3, 67,
      zck h 13 a0 (zb (f_X12_steps n a0 a2 h) fun r7 h8 =>
      some (r7, h8))),
    (4, 73,
      zck h 13 a0 (zb (f_X12_parks n a0 a2 h) fun r9 h10 =>
      some (r9, h10))),
    (5, 79,
      zck h 13 a0 (zb (f_X12_leaves0 n a0 a2 h) fun r11 h12 =>
      some (r11, h12))),
    (6, 85,
      zck h 13 a0 (zb (f_X12_ticks n a0 a2 h) fun r13 h14 =>
      some (r13, h14))),
    (7, 91,
      zck h 13 a0 (zb (f_X12_beginsOr n a0 h) fun r15 h16 =>
      some (r15, h16)))] (
      zck h 13 a0 (zb (f_X12_hurries n a0 h) fun r17 h18 =>
      some (r17, h18)))
def f_X12_actsKept (n : Nat) (a0 : Nat) (a1 : Int32) (a2 : Int32) (a3 : Int32) (h : zH) : Option (Int32 × zH) :=
  zck h 13 a0 (zb (f_X12_laysAside n a0 2 h) fun _ h2 =>
  zck h2 13 a0 (zb (f_X12_acts n a0 a1 a2 a3 h2) fun r3 h4 =>
  zck h4 13 a0 (zb (f_X12_keptOr n a0 a1 r3 h4) fun r5 h6 =>
  some (r5, h6))))
def f_X12_put (n : Nat) (a0 : Nat) (a1 : Int32) (a2 : Int32) (h : zH) : Option (Int32 × zH) :=
  zck h 13 a0 (zb (f_X12_actsKept n a0 0 a1 a2 h) fun r1 h2 =>
  zck h2 13 a0 (zb (f_X12_goodOr n a0 r1 h2) fun r3 h4 =>
  some (r3, h4)))
def f_X12_drop (n : Nat) (a0 : Nat) (a1 : Int32) (h : zH) : Option (Int32 × zH) :=
  zck h 13 a0 (zb (f_X12_actsKept n a0 1 a1 0 h) fun r1 h2 =>
  zck h2 13 a0 (zb (f_X12_goodOr n a0 r1 h2) fun r3 h4 =>
  some (r3, h4)))
def f_X12_enter (n : Nat) (a0 : Nat) (a1 : Int32) (h : zH) : Option (Int32 × zH) :=
  zck h 13 a0 (zb (f_X12_actsKept n a0 2 a1 0 h) fun r1 h2 =>
  zck h2 13 a0 (zb (f_X12_goodOr n a0 r1 h2) fun r3 h4 =>
  some (r3, h4)))
def f_X12_step (n : Nat) (a0 : Nat) (a1 : Int32) (h : zH) : Option (Int32 × zH) :=
  zck h 13 a0 (zb (f_X12_actsKept n a0 3 a1 0 h) fun r1 h2 =>
  zck h2 13 a0 (zb (f_X12_goodOr n a0 r1 h2) fun r3 h4 =>
  some (r3, h4)))
def f_X12_park (n : Nat) (a0 : Nat) (a1 : Int32) (h : zH) : Option (Int32 × zH) :=
  zck h 13 a0 (zb (f_X12_actsKept n a0 4 a1 0 h) fun r1 h2 =>
  zck h2 13 a0 (zb (f_X12_goodOr n a0 r1 h2) fun r3 h4 =>
  some (r3, h4)))
def f_X12_leave (n : Nat) (a0 : Nat) (a1 : Int32) (h : zH) : Option (Int32 × zH) :=
  zck h 13 a0 (zb (f_X12_actsKept n a0 5 a1 0 h) fun r1 h2 =>
  zck h2 13 a0 (zb (f_X12_goodOr n a0 r1 h2) fun r3 h4 =>
  some (r3, h4)))
def f_X12_tick (n : Nat) (a0 : Nat) (a1 : Int32) (h : zH) : Option (Int32 × zH) :=
  zck h 13 a0 (zb (f_X12_actsKept n a0 6 a1 0 h) fun r1 h2 =>
  zck h2 13 a0 (zb (f_X12_goodOr n a0 r1 h2) fun r3 h4 =>
  some (r3, h4)))
def f_X12_begin (n : Nat) (a0 : Nat) (h : zH) : Option (Int32 × zH) :=
  zck h 13 a0 (zb (f_X12_actsKept n a0 7 0 0 h) fun r1 h2 =>
  zck h2 13 a0 (zb (f_X12_goodOr n a0 r1 h2) fun r3 h4 =>
  some (r3, h4)))
def f_X12_hurry (n : Nat) (a0 : Nat) (h : zH) : Option (Int32 × zH) :=
  zck h 13 a0 (zb (f_X12_actsKept n a0 8 0 0 h) fun r1 h2 =>
  zck h2 13 a0 (zb (f_X12_goodOr n a0 r1 h2) fun r3 h4 =>
  some (r3, h4)))
def fb_X12_sees_22 (n : Nat) (k22 : Nat → Int32 → Int32 → Int32 → zH → Option (Int32 × zH)) (l0 : Nat) (l2 : Int32) (l3 : Int32) (l4 : Int32) (h : zH) : Option (Int32 × zH) :=
  if l2 ≤ l4 then
    some (l3, h)
  else
    if l3 = (-1) then
      some (l3, h)
    else
      zgR h 13 l0 2 fun v1 =>
      zaI h 21 v1 ((72 : Int32) + l3) fun v2 =>
      k22 l0 l2 v2 (l4 + 1) h
def f_X12_sees (n : Nat) (a0 : Nat) (a1 : Int32) (a2 : Int32) (h : zH) : Option (Int32 × zH) :=
  zb (f_X12_isProcessor n a1 h) fun r1 h2 =>
  if r1 = 0 then
    some ((-1), h2)
  else
    if 0 ≤ a2 then
      zck h2 13 a0 (zb (f_X12_cellOf n a0 a1 h2) fun r3 h4 =>
      zlp4 (fb_X12_sees_22 n ) n a0 a2 r3 0 h4)
    else
      some ((-1), h2)
def fb_X12_seesCell_29 (n : Nat) (l3 : Int32) (h : zH) : Option (Int32 × zH) :=
  if l3 = (-1) then
    some (0, h)
  else
    some (1, h)
def fb_X12_seesCell_6 (n : Nat) (k6 : Nat → Int32 → Int32 → zH → Option (Int32 × zH)) (l0 : Nat) (l2 : Int32) (l3 : Int32) (h : zH) : Option (Int32 × zH) :=
  if l3 = (-1) then
    fb_X12_seesCell_29 n l3 h
  else
    if l3 = l2 then
      fb_X12_seesCell_29 n l3 h
    else
      zgR h 13 l0 2 fun v1 =>
      zaI h 21 v1 ((72 : Int32) + l3) fun v2 =>
      k6 l0 l2 v2 h
def f_X12_seesCell (n : Nat) (a0 : Nat) (a1 : Int32) (a2 : Int32) (h : zH) : Option (Int32 × zH) :=
  zck h 13 a0 (zb (f_X12_cellOf n a0 a1 h) fun r1 h2 =>
  zlp3 (fb_X12_seesCell_6 n ) n a0 a2 r1 h2)
def fb_X12_reach_36 (n : Nat) (k13 : Nat → Int32 → Int32 → Int32 → zH → Option (Int32 × zH)) (l0 : Nat) (l1 : Int32) (l3 : Int32) (s0 : Int32) (s1 : Int32) (h : zH) : Option (Int32 × zH) :=
  zlt (s0 ||| s1) fun x1 =>
  k13 l0 l1 x1 (l3 + 1) h
def fb_X12_reach_13 (n : Nat) (k13 : Nat → Int32 → Int32 → Int32 → zH → Option (Int32 × zH)) (l0 : Nat) (l1 : Int32) (l2 : Int32) (l3 : Int32) (h : zH) : Option (Int32 × zH) :=
  if 8 ≤ l3 then
    some (l2, h)
  else
    zck h 13 l0 (zb (f_X12_seesCell n l0 l3 l1 h) fun r1 h2 =>
    if r1 = 0 then
      fb_X12_reach_36 n k13 l0 l1 l3 l2 0 h2
    else
      fb_X12_reach_36 n k13 l0 l1 l3 l2 ((1 : Int32) <<< (l3 &&& 31)) h2)
def f_X12_reach (n : Nat) (a0 : Nat) (a1 : Int32) (h : zH) : Option (Int32 × zH) :=
  zb (f_X12_isCell n a1 h) fun r1 h2 =>
  if r1 = 0 then
    some ((-1), h2)
  else
    zlp4 (fb_X12_reach_13 n ) n a0 a1 0 0 h2
def fb_X12_holders_41 (n : Nat) (k4 : Nat → Int32 → Int32 → zH → Option (Int32 × zH)) (l0 : Nat) (l2 : Int32) (s0 : Int32) (s1 : Int32) (h : zH) : Option (Int32 × zH) :=
  zlt (s0 ||| s1) fun x1 =>
  k4 l0 x1 (l2 + 1) h
def fb_X12_holders_34 (n : Nat) (k4 : Nat → Int32 → Int32 → zH → Option (Int32 × zH)) (l0 : Nat) (l2 : Int32) (s0 : Int32) (h : zH) : Option (Int32 × zH) :=
  fb_X12_holders_41 n k4 l0 l2 s0 ((1 : Int32) <<< (l2 &&& 31)) h
def fb_X12_holders_4 (n : Nat) (k4 : Nat → Int32 → Int32 → zH → Option (Int32 × zH)) (l0 : Nat) (l1 : Int32) (l2 : Int32) (h : zH) : Option (Int32 × zH) :=
  if 8 ≤ l2 then
    some (l1, h)
  else
    zck h 13 l0 (zb (f_X12_runs0 n l0 h) fun r1 h2 =>
    if r1 = 0 then
      some (l1, h2)
    else
      zck h2 13 l0 (zb (f_X12_hasReported n l0 l2 h2) fun r3 h4 =>
      if r3 = 0 then
        fb_X12_holders_34 n k4 l0 l2 l1 h4
      else
        zck h4 13 l0 (zb (f_X12_isHeld n l0 l2 h4) fun r5 h6 =>
        if r5 = 0 then
          fb_X12_holders_41 n k4 l0 l2 l1 0 h6
        else
          fb_X12_holders_34 n k4 l0 l2 l1 h6)))
def f_X12_holders (n : Nat) (a0 : Nat) (h : zH) : Option (Int32 × zH) :=
  zlp3 (fb_X12_holders_4 n ) n a0 0 0 h
def fb_X12_behindNode_22 (n : Nat) (l0 : Nat) (l1 : Int32) (s0 : Int32) (h : zH) : Option (Int32 × zH) :=
  if 4 ≤ l1 then
    zlt ((2 : Int32) * (l1 - 4)) fun x1 =>
    zgR h 13 l0 2 fun v2 =>
    zaI h 21 v2 ((131 : Int32) + l1) fun v3 =>
    if v3 = 0 then
      zck h 13 l0 (zb (f_X12_isHeld n l0 x1 h) fun r4 h5 =>
      if r4 = 0 then
        some ((20 : Int32) + (x1 + 1), h5)
      else
        some ((20 : Int32) + x1, h5))
    else
      some (((10 : Int32) + x1) + s0, h)
  else
    some (((2 : Int32) * l1) + s0, h)
def f_X12_behindNode (n : Nat) (a0 : Nat) (a1 : Int32) (h : zH) : Option (Int32 × zH) :=
  zgR h 13 a0 2 fun v1 =>
  zaI h 21 v1 ((131 : Int32) + a1) fun v2 =>
  zb (f_X12_isIn n v2 0 h) fun r3 h4 =>
  if r3 = 0 then
    fb_X12_behindNode_22 n a0 a1 1 h4
  else
    fb_X12_behindNode_22 n a0 a1 0 h4
def fb_X12_why_17 (n : Nat) (k17 : Nat → Int32 → Int32 → Int32 → zH → Option (Int32 × zH)) (l0 : Nat) (l1 : Int32) (l2 : Int32) (l3 : Int32) (h : zH) : Option (Int32 × zH) :=
  if l1 ≤ l3 then
    some (l2, h)
  else
    if l2 < 10 then
      zck h 13 l0 (zb (f_X12_behindNode n l0 l2 h) fun r1 h2 =>
      k17 l0 l1 r1 (l3 + 1) h2)
    else
      some ((-1), h)
def f_X12_why (n : Nat) (a0 : Nat) (a1 : Int32) (h : zH) : Option (Int32 × zH) :=
  if a1 < 0 then
    some ((-1), h)
  else
    zck h 13 a0 (zb (f_X12_runs0 n a0 h) fun r1 h2 =>
    if r1 = 0 then
      some ((-1), h2)
    else
      zlp4 (fb_X12_why_17 n ) n a0 a1 1 0 h2)
def fb_X12_least_73 (n : Nat) (k13 : Nat → Int32 → Int32 → zH → Option (Int32 × zH)) (l0 : Nat) (l2 : Int32) (s0 : Int32) (s1 : Int32) (h : zH) : Option (Int32 × zH) :=
  zlt (s0 + s1) fun x1 =>
  k13 l0 x1 (l2 + 1) h
def fb_X12_least_68 (n : Nat) (k13 : Nat → Int32 → Int32 → zH → Option (Int32 × zH)) (l0 : Nat) (l2 : Int32) (s0 : Int32) (h : zH) : Option (Int32 × zH) :=
  fb_X12_least_73 n k13 l0 l2 s0 1 h
def fb_X12_least_72 (n : Nat) (k13 : Nat → Int32 → Int32 → zH → Option (Int32 × zH)) (l0 : Nat) (l2 : Int32) (s0 : Int32) (h : zH) : Option (Int32 × zH) :=
  fb_X12_least_73 n k13 l0 l2 s0 0 h
def fb_X12_least_33 (n : Nat) (k13 : Nat → Int32 → Int32 → zH → Option (Int32 × zH)) (l0 : Nat) (l2 : Int32) (s0 : Int32) (s1 : Int32) (h : zH) : Option (Int32 × zH) :=
  zlt (s0 + s1) fun x1 =>
  zck h 13 l0 (zb (f_X12_isHeld n l0 l2 h) fun r2 h3 =>
  if r2 = 0 then
    zck h3 13 l0 (zb (f_X12_isOn n l0 l2 h3) fun r4 h5 =>
    if r4 = 0 then
      fb_X12_least_72 n k13 l0 l2 x1 h5
    else
      zck h5 13 l0 (zb (f_X12_isParked n l0 l2 h5) fun r6 h7 =>
      if r6 = 0 then
        zck h7 13 l0 (zb (f_X12_hasReported n l0 l2 h7) fun r8 h9 =>
        if r8 = 0 then
          fb_X12_least_68 n k13 l0 l2 x1 h9
        else
          fb_X12_least_72 n k13 l0 l2 x1 h9)
      else
        fb_X12_least_72 n k13 l0 l2 x1 h7))
  else
    fb_X12_least_68 n k13 l0 l2 x1 h3)
def fb_X12_least_13 (n : Nat) (k13 : Nat → Int32 → Int32 → zH → Option (Int32 × zH)) (l0 : Nat) (l1 : Int32) (l2 : Int32) (h : zH) : Option (Int32 × zH) :=
  if 8 ≤ l2 then
    some (l1, h)
  else
    zck h 13 l0 (zb (f_X12_hasReported n l0 l2 h) fun r1 h2 =>
    if r1 = 0 then
      fb_X12_least_33 n k13 l0 l2 l1 1 h2
    else
      fb_X12_least_33 n k13 l0 l2 l1 0 h2)
def f_X12_least (n : Nat) (a0 : Nat) (h : zH) : Option (Int32 × zH) :=
  zck h 13 a0 (zb (f_X12_runs0 n a0 h) fun r1 h2 =>
  if r1 = 0 then
    some ((-1), h2)
  else
    zlp3 (fb_X12_least_13 n ) n a0 0 0 h2)
def fb_X12_seen_19 (n : Nat) (l0 : Nat) (h : zH) : Option (Int32 × zH) :=
  zck h 13 l0 (zb (f_X12_refuses n l0 (-1) h) fun r1 h2 =>
  some (r1, h2))
def f_X12_seen (n : Nat) (a0 : Nat) (a1 : Int32) (a2 : Int32) (h : zH) : Option (Int32 × zH) :=
  zb (f_X12_lies n a1 0 2 h) fun r1 h2 =>
  if r1 = 0 then
    fb_X12_seen_19 n a0 h2
  else
    zb (f_X12_lies n a2 0 100 h2) fun r3 h4 =>
    if r3 = 0 then
      fb_X12_seen_19 n a0 h4
    else
      zgR h4 13 a0 2 fun v5 =>
      zaI h4 21 v5 205 fun v6 =>
      zlt ((191 : Int32) + ((2 : Int32) * v6)) fun x7 =>
      zgR h4 13 a0 2 fun v8 =>
      zaI h4 21 v8 205 fun v9 =>
      if v9 = 6 then
        zck h4 13 a0 (zb (f_X12_refuses n a0 (-5) h4) fun r21 h22 =>
        some (r21, h22))
      else
        zgR h4 13 a0 2 fun v10 =>
        zeI h4 v10 x7 a1 fun h11 =>
        zgR h11 13 a0 2 fun v12 =>
        zeI h11 v12 (x7 + 1) a2 fun h13 =>
        zgR h13 13 a0 2 fun v14 =>
        zaI h13 21 v14 205 fun v15 =>
        zeI h13 v14 205 (v15 + 1) fun h16 =>
        zgR h16 13 a0 2 fun v17 =>
        zaI h16 21 v17 205 fun v18 =>
        zck h16 13 a0 (zb (f_X12_good n a0 v18 h16) fun r19 h20 =>
        some (r19, h20))
def f_X12_forget (n : Nat) (a0 : Nat) (h : zH) : Option (Int32 × zH) :=
  zgR h 13 a0 2 fun v1 =>
  zaI h 21 v1 205 fun v2 =>
  zgR h 13 a0 2 fun v3 =>
  zeI h v3 205 0 fun h4 =>
  some (v2, h4)
def f_X12_factOf (n : Nat) (a0 : Nat) (a1 : Int32) (a2 : Int32) (h : zH) : Option (Int32 × zH) :=
  zswl a2 [
    (0, 28,
      zgR h 13 a0 2 fun v1 =>
      zaI h 21 v1 ((97 : Int32) + a1) fun v2 =>
      some (v2, h)),
    (1, 38,
      zgR h 13 a0 2 fun v3 =>
      zaI h 21 v3 ((113 : Int32) + a1) fun v4 =>
      some (v4, h))] (
      zck h 13 a0 (zb (f_X12_cellOf n a0 a1 h) fun r5 h6 =>
      if r5 = (-1) then
        some (100, h6)
      else
        zgR h6 13 a0 2 fun v7 =>
        zck h6 13 a0 (zb (f_X12_cellOf n a0 a1 h6) fun r8 h9 =>
        zaI h9 21 v7 ((24 : Int32) + r8) fun v10 =>
        some (v10, h9))))
def fb_X12_canBeNow_92 (n : Nat) (k4 : Nat → Int32 → Int32 → zH → Option (Int32 × zH)) (l0 : Nat) (l2 : Int32) (s0 : Int32) (s1 : Int32) (h : zH) : Option (Int32 × zH) :=
  zlt (s0 ||| s1) fun x1 =>
  k4 l0 x1 (l2 + 1) h
def fb_X12_canBeNow_80 (n : Nat) (k4 : Nat → Int32 → Int32 → zH → Option (Int32 × zH)) (l0 : Nat) (l1 : Int32) (l2 : Int32) (l3 : Int32) (h : zH) : Option (Int32 × zH) :=
  if l3 = 0 then
    fb_X12_canBeNow_92 n k4 l0 l2 l1 0 h
  else
    fb_X12_canBeNow_92 n k4 l0 l2 l1 ((1 : Int32) <<< (l2 &&& 31)) h
def fb_X12_canBeNow_73 (n : Nat) (k4 : Nat → Int32 → Int32 → zH → Option (Int32 × zH)) (k15 : Nat → Int32 → Int32 → Int32 → Int32 → zH → Option (Int32 × zH)) (l0 : Nat) (l1 : Int32) (l2 : Int32) (l4 : Int32) (s0 : Int32) (h : zH) : Option (Int32 × zH) :=
  k15 l0 l1 l2 s0 (l4 + 1) h
def fb_X12_canBeNow_72 (n : Nat) (k4 : Nat → Int32 → Int32 → zH → Option (Int32 × zH)) (k15 : Nat → Int32 → Int32 → Int32 → Int32 → zH → Option (Int32 × zH)) (l0 : Nat) (l1 : Int32) (l2 : Int32) (l4 : Int32) (h : zH) : Option (Int32 × zH) :=
  fb_X12_canBeNow_73 n k4 k15 l0 l1 l2 l4 0 h
def fb_X12_canBeNow_15 (n : Nat) (k4 : Nat → Int32 → Int32 → zH → Option (Int32 × zH)) (k15 : Nat → Int32 → Int32 → Int32 → Int32 → zH → Option (Int32 × zH)) (l0 : Nat) (l1 : Int32) (l2 : Int32) (l3 : Int32) (l4 : Int32) (h : zH) : Option (Int32 × zH) :=
  zgR h 13 l0 2 fun v1 =>
  zaI h 21 v1 205 fun v2 =>
  if v2 ≤ l4 then
    fb_X12_canBeNow_80 n k4 l0 l1 l2 l3 h
  else
    if l3 = 0 then
      fb_X12_canBeNow_72 n k4 k15 l0 l1 l2 l4 h
    else
      zgR h 13 l0 2 fun v3 =>
      zaI h 21 v3 ((191 : Int32) + ((2 : Int32) * l4)) fun v4 =>
      zck h 13 l0 (zb (f_X12_factOf n l0 l2 v4 h) fun r5 h6 =>
      zgR h6 13 l0 2 fun v7 =>
      zaI h6 21 v7 (((191 : Int32) + ((2 : Int32) * l4)) + 1) fun v8 =>
      if r5 = v8 then
        fb_X12_canBeNow_73 n k4 k15 l0 l1 l2 l4 1 h6
      else
        fb_X12_canBeNow_72 n k4 k15 l0 l1 l2 l4 h6)
def fb_X12_canBeNow_4 (n : Nat) (k4 : Nat → Int32 → Int32 → zH → Option (Int32 × zH)) (l0 : Nat) (l1 : Int32) (l2 : Int32) (h : zH) : Option (Int32 × zH) :=
  if 8 ≤ l2 then
    some (l1, h)
  else
    zlp5 (fb_X12_canBeNow_15 n k4 ) n l0 l1 l2 1 0 h
def f_X12_canBeNow (n : Nat) (a0 : Nat) (h : zH) : Option (Int32 × zH) :=
  zlp3 (fb_X12_canBeNow_4 n ) n a0 0 0 h
def f_X12_canBe (n : Nat) (a0 : Nat) (h : zH) : Option (Int32 × zH) :=
  zck h 13 a0 (zb (f_X12_canBeNow n a0 h) fun r1 h2 =>
  some (r1, h2))
def fb_X12_mostAlike_76 (n : Nat) (k5 : Nat → Int32 → Int32 → Int32 → Int32 → zH → Option (Int32 × zH)) (l0 : Nat) (l1 : Int32) (l2 : Int32) (l3 : Int32) (l4 : Int32) (l5 : Int32) (h : zH) : Option (Int32 × zH) :=
  zb (f_X12_greater n l3 l5 h) fun r1 h2 =>
  k5 l0 l1 l2 r1 (l4 + 1) h2
def fb_X12_mostAlike_67 (n : Nat) (k5 : Nat → Int32 → Int32 → Int32 → Int32 → zH → Option (Int32 × zH)) (k18 : Nat → Int32 → Int32 → Int32 → Int32 → Int32 → Int32 → zH → Option (Int32 × zH)) (l0 : Nat) (l1 : Int32) (l2 : Int32) (l3 : Int32) (l4 : Int32) (l6 : Int32) (s0 : Int32) (s1 : Int32) (h : zH) : Option (Int32 × zH) :=
  zlt (s0 + s1) fun x1 =>
  k18 l0 l1 l2 l3 l4 x1 (l6 + 1) h
def fb_X12_mostAlike_66 (n : Nat) (k5 : Nat → Int32 → Int32 → Int32 → Int32 → zH → Option (Int32 × zH)) (k18 : Nat → Int32 → Int32 → Int32 → Int32 → Int32 → Int32 → zH → Option (Int32 × zH)) (l0 : Nat) (l1 : Int32) (l2 : Int32) (l3 : Int32) (l4 : Int32) (l6 : Int32) (s0 : Int32) (h : zH) : Option (Int32 × zH) :=
  fb_X12_mostAlike_67 n k5 k18 l0 l1 l2 l3 l4 l6 s0 0 h
def fb_X12_mostAlike_18 (n : Nat) (k5 : Nat → Int32 → Int32 → Int32 → Int32 → zH → Option (Int32 × zH)) (k18 : Nat → Int32 → Int32 → Int32 → Int32 → Int32 → Int32 → zH → Option (Int32 × zH)) (l0 : Nat) (l1 : Int32) (l2 : Int32) (l3 : Int32) (l4 : Int32) (l5 : Int32) (l6 : Int32) (h : zH) : Option (Int32 × zH) :=
  if 8 ≤ l6 then
    fb_X12_mostAlike_76 n k5 l0 l1 l2 l3 l4 l5 h
  else
    zb (f_X12_isIn n l1 l4 h) fun r1 h2 =>
    if r1 = 0 then
      fb_X12_mostAlike_66 n k5 k18 l0 l1 l2 l3 l4 l6 l5 h2
    else
      zb (f_X12_isIn n l1 l6 h2) fun r3 h4 =>
      if r3 = 0 then
        fb_X12_mostAlike_66 n k5 k18 l0 l1 l2 l3 l4 l6 l5 h4
      else
        zck h4 13 l0 (zb (f_X12_factOf n l0 l4 l2 h4) fun r5 h6 =>
        zck h6 13 l0 (zb (f_X12_factOf n l0 l6 l2 h6) fun r7 h8 =>
        if r5 = r7 then
          fb_X12_mostAlike_67 n k5 k18 l0 l1 l2 l3 l4 l6 l5 1 h8
        else
          fb_X12_mostAlike_66 n k5 k18 l0 l1 l2 l3 l4 l6 l5 h8))
def fb_X12_mostAlike_5 (n : Nat) (k5 : Nat → Int32 → Int32 → Int32 → Int32 → zH → Option (Int32 × zH)) (l0 : Nat) (l1 : Int32) (l2 : Int32) (l3 : Int32) (l4 : Int32) (h : zH) : Option (Int32 × zH) :=
  if 8 ≤ l4 then
    some (l3, h)
  else
    zlp7 (fb_X12_mostAlike_18 n k5 ) n l0 l1 l2 l3 l4 0 0 h
def f_X12_mostAlike (n : Nat) (a0 : Nat) (a1 : Int32) (a2 : Int32) (h : zH) : Option (Int32 × zH) :=
  zlp5 (fb_X12_mostAlike_5 n ) n a0 a1 a2 0 0 h
def fb_X12_ask_67 (n : Nat) (l1 : Int32) (l3 : Int32) (l4 : Int32) (h : zH) : Option (Int32 × zH) :=
  if l3 = (-1) then
    some (l3, h)
  else
    if l1 = 0 then
      some (l3, h)
    else
      some (l4, h)
def fb_X12_ask_61 (n : Nat) (k25 : Nat → Int32 → Int32 → Int32 → Int32 → Int32 → zH → Option (Int32 × zH)) (l0 : Nat) (l1 : Int32) (l2 : Int32) (l3 : Int32) (l4 : Int32) (l5 : Int32) (h : zH) : Option (Int32 × zH) :=
  k25 l0 l1 l2 l3 l4 (l5 + 1) h
def fb_X12_ask_25 (n : Nat) (k25 : Nat → Int32 → Int32 → Int32 → Int32 → Int32 → zH → Option (Int32 × zH)) (l0 : Nat) (l1 : Int32) (l2 : Int32) (l3 : Int32) (l4 : Int32) (l5 : Int32) (h : zH) : Option (Int32 × zH) :=
  if 3 ≤ l5 then
    fb_X12_ask_67 n l1 l3 l4 h
  else
    if l2 = 0 then
      fb_X12_ask_67 n l1 l3 l4 h
    else
      zck h 13 l0 (zb (f_X12_mostAlike n l0 l2 l5 h) fun r1 h2 =>
      if r1 < l4 then
        fb_X12_ask_61 n k25 l0 l1 l2 l5 r1 l5 h2
      else
        fb_X12_ask_61 n k25 l0 l1 l2 l3 l4 l5 h2)
def f_X12_ask (n : Nat) (a0 : Nat) (a1 : Int32) (h : zH) : Option (Int32 × zH) :=
  zb (f_X12_lies n a1 0 1 h) fun r1 h2 =>
  if r1 = 0 then
    some ((-1), h2)
  else
    zck h2 13 a0 (zb (f_X12_canBeNow n a0 h2) fun r3 h4 =>
    zlp6 (fb_X12_ask_25 n ) n a0 a1 r3 (-1) 1000000 0 h4)
def fb_X12_few_153 (n : Nat) (k153 : Nat → Int32 → Int64 → Int32 → zH → Option (Int64 × zH)) (l0 : Nat) (l1 : Int32) (l3 : Int64) (l5 : Int32) (h : zH) : Option (Int64 × zH) :=
  if l1 ≤ l5 then
    some (l3, h)
  else
    zgR h 13 l0 32 fun v1 =>
    zaL h v1 l5 fun v2 =>
    zlt (l3 + v2) fun x3 =>
    k153 l0 l1 x3 (l5 + 1) h
def fb_X12_few_148 (n : Nat) (l0 : Nat) (l1 : Int32) (h : zH) : Option (Int64 × zH) :=
  zlp4 (fb_X12_few_153 n ) n l0 l1 0 0 h
def fb_X12_few_142 (n : Nat) (k57 : Nat → Int32 → Int32 → Int32 → zH → Option (Int64 × zH)) (l0 : Nat) (l1 : Int32) (l2 : Int32) (l3 : Int32) (h : zH) : Option (Int64 × zH) :=
  k57 l0 l1 l2 (l3 + 1) h
def fb_X12_few_67 (n : Nat) (k57 : Nat → Int32 → Int32 → Int32 → zH → Option (Int64 × zH)) (k67 : Nat → Int32 → Int32 → Int32 → Int32 → zH → Option (Int64 × zH)) (l0 : Nat) (l1 : Int32) (l2 : Int32) (l3 : Int32) (l4 : Int32) (h : zH) : Option (Int64 × zH) :=
  if l4 < 0 then
    fb_X12_few_142 n k57 l0 l1 l2 l3 h
  else
    zgR h 13 l0 32 fun v1 =>
    zaL h v1 (l4 + 1) fun v2 =>
    zgR h 13 l0 32 fun v3 =>
    zaL h v3 l4 fun v4 =>
    zgR h 13 l0 2 fun v5 =>
    zaI h 21 v5 203 fun v6 =>
    zeL h v1 (l4 + 1) (v2 + ((v4 * (Int32.toInt64 v6)) / 10)) fun h7 =>
    zgR h7 13 l0 32 fun v8 =>
    zgR h7 13 l0 32 fun v9 =>
    zaL h7 v9 l4 fun v10 =>
    zgR h7 13 l0 2 fun v11 =>
    zaI h7 21 v11 203 fun v12 =>
    zeL h7 v8 l4 ((v10 * (Int32.toInt64 ((10 : Int32) - v12))) / 10) fun h13 =>
    k67 l0 l1 l2 l3 (l4 + (-1)) h13
def fb_X12_few_57 (n : Nat) (k57 : Nat → Int32 → Int32 → Int32 → zH → Option (Int64 × zH)) (l0 : Nat) (l1 : Int32) (l2 : Int32) (l3 : Int32) (h : zH) : Option (Int64 × zH) :=
  if l2 ≤ l3 then
    fb_X12_few_148 n l0 l1 h
  else
    zlt (l1 - 1) fun x1 =>
    zlp5 (fb_X12_few_67 n k57 ) n l0 l1 l2 l3 x1 h
def fb_X12_few_55 (n : Nat) (l0 : Nat) (l1 : Int32) (l2 : Int32) (h : zH) : Option (Int64 × zH) :=
  zlp4 (fb_X12_few_57 n ) n l0 l1 l2 0 h
def fb_X12_few_48 (n : Nat) (k26 : Nat → Int32 → Int32 → Int32 → zH → Option (Int64 × zH)) (l0 : Nat) (l1 : Int32) (l2 : Int32) (l3 : Int32) (s0 : Nat) (s1 : Int32) (s2 : Int64) (h : zH) : Option (Int64 × zH) :=
  zeL h s0 s1 s2 fun h1 =>
  k26 l0 l1 l2 (l3 + 1) h1
def fb_X12_few_26 (n : Nat) (k26 : Nat → Int32 → Int32 → Int32 → zH → Option (Int64 × zH)) (l0 : Nat) (l1 : Int32) (l2 : Int32) (l3 : Int32) (h : zH) : Option (Int64 × zH) :=
  if 20 < l3 then
    fb_X12_few_55 n l0 l1 l2 h
  else
    zgR h 13 l0 32 fun v1 =>
    if l3 = 0 then
      fb_X12_few_48 n k26 l0 l1 l2 l3 v1 l3 1000000000000 h
    else
      fb_X12_few_48 n k26 l0 l1 l2 l3 v1 l3 0 h
def f_X12_few (n : Nat) (a0 : Nat) (a1 : Int32) (a2 : Int32) (h : zH) : Option (Int64 × zH) :=
  zb (f_X12_lies n a1 1 20 h) fun r1 h2 =>
  if r1 = 0 then
    some ((-1), h2)
  else
    zb (f_X12_lies n a2 0 99 h2) fun r3 h4 =>
    if r3 = 0 then
      some ((-1), h4)
    else
      zlp4 (fb_X12_few_26 n ) n a0 a1 a2 0 h4
def f_X12_compare (n : Nat) (a0 : Nat) (a1 : Int32) (a2 : Int32) (a3 : Int32) (h : zH) : Option (Int32 × zH) :=
  zck h 13 a0 (zb (f_X12_isLaw n a0 a1 h) fun r1 h2 =>
  if r1 = 0 then
    some ((-1), h2)
  else
    zb (f_X12_lies n a2 1 7 h2) fun r3 h4 =>
    if r3 = 0 then
      some ((-1), h4)
    else
      zb (f_X12_lies n a3 0 1 h4) fun r5 h6 =>
      if r5 = 0 then
        some ((-1), h6)
      else
        zgR h6 13 a0 2 fun v7 =>
        zaI h6 21 v7 207 fun v8 =>
        zgR h6 13 a0 2 fun v9 =>
        zeI h6 v9 207 a1 fun h10 =>
        zck h10 13 a0 (zb (f_X12_costsAt n a0 a2 a3 h10) fun r11 h12 =>
        zgR h12 13 a0 2 fun v13 =>
        zeI h12 v13 207 v8 fun h14 =>
        some (r11, h14)))
def f_X12_stopped (n : Nat) (a0 : Nat) (h : zH) : Option (Int32 × zH) :=
  zgI h 13 a0 33 fun v1 =>
  some (v1, h)
def fb_X12_goesAlong_234 (n : Nat) (l0 : Nat) (s0 : Nat) (s1 : Int32) (h : zH) : Option (Unit × zH) :=
  zpZ h 13 s0 38 s1 fun h1 =>
  zgI h1 13 l0 22 fun v2 =>
  zpI h1 13 l0 22 (v2 + 1) fun h3 =>
  some ((), h3)
def fb_X12_goesAlong_233 (n : Nat) (l0 : Nat) (s0 : Nat) (h : zH) : Option (Unit × zH) :=
  fb_X12_goesAlong_234 n l0 s0 0 h
def fb_X12_goesAlong_211 (n : Nat) (l0 : Nat) (s0 : Nat) (s1 : Int32) (h : zH) : Option (Unit × zH) :=
  zpZ h 13 s0 38 s1 fun h1 =>
  zgI h1 13 l0 38 fun v2 =>
  if v2 = 0 then
    fb_X12_goesAlong_233 n l0 l0 h1
  else
    zgI h1 13 l0 24 fun v3 =>
    if v3 = 0 then
      fb_X12_goesAlong_234 n l0 l0 1 h1
    else
      fb_X12_goesAlong_233 n l0 l0 h1
def fb_X12_goesAlong_206 (n : Nat) (l0 : Nat) (s0 : Nat) (h : zH) : Option (Unit × zH) :=
  fb_X12_goesAlong_211 n l0 s0 1 h
def fb_X12_goesAlong_184 (n : Nat) (l0 : Nat) (l2 : Int32) (h : zH) : Option (Unit × zH) :=
  zpZ h 13 l0 24 0 fun h1 =>
  zck h1 13 l0 (zb (f_X12_passes0 n l0 3 h1) fun r2 h3 =>
  if r2 = 0 then
    fb_X12_goesAlong_206 n l0 l0 h3
  else
    zck h3 13 l0 (zb (f_X12_testOf n 12 l0 l2 h3) fun r4 h5 =>
    if r4 = 0 then
      fb_X12_goesAlong_211 n l0 l0 0 h5
    else
      fb_X12_goesAlong_206 n l0 l0 h5))
def fb_X12_goesAlong_143 (n : Nat) (l0 : Nat) (l2 : Int32) (h : zH) : Option (Unit × zH) :=
  zpI h 13 l0 35 1 fun h1 =>
  zck h1 13 l0 (zb (f_X12_passes0 n l0 29 h1) fun r2 h3 =>
  if r2 = 0 then
    fb_X12_goesAlong_184 n l0 l2 h3
  else
    zgR h3 13 l0 2 fun v4 =>
    zgI h3 13 l0 22 fun v5 =>
    zaI h3 21 v4 ((3015 : Int32) + v5) fun v6 =>
    zpI h3 13 l0 35 v6 fun h7 =>
    zgI h7 13 l0 22 fun v8 =>
    zpI h7 13 l0 22 (v8 + 1) fun h9 =>
    fb_X12_goesAlong_184 n l0 l2 h9)
def fb_X12_goesAlong_134 (n : Nat) (k76 : Nat → Int32 → Int32 → Int32 → zH → Option (Unit × zH)) (l0 : Nat) (l2 : Int32) (l3 : Int32) (l4 : Int32) (s0 : Nat) (s1 : Int32) (h : zH) : Option (Unit × zH) :=
  zpZ h 13 s0 37 s1 fun h1 =>
  k76 l0 l2 l3 (l4 + 1) h1
def fb_X12_goesAlong_133 (n : Nat) (k76 : Nat → Int32 → Int32 → Int32 → zH → Option (Unit × zH)) (l0 : Nat) (l2 : Int32) (l3 : Int32) (l4 : Int32) (s0 : Nat) (h : zH) : Option (Unit × zH) :=
  fb_X12_goesAlong_134 n k76 l0 l2 l3 l4 s0 0 h
def fb_X12_goesAlong_97 (n : Nat) (k76 : Nat → Int32 → Int32 → Int32 → zH → Option (Unit × zH)) (l0 : Nat) (l2 : Int32) (l3 : Int32) (l4 : Int32) (h : zH) : Option (Unit × zH) :=
  zpZ h 13 l0 24 0 fun h1 =>
  zgR h1 13 l0 39 fun v2 =>
  zck h1 13 l0 (zb (f_X12_sumOf n 12 l0 l2 h1) fun r3 h4 =>
  zeL h4 v2 l4 r3 fun h5 =>
  zgI h5 13 l0 37 fun v6 =>
  if v6 = 0 then
    fb_X12_goesAlong_133 n k76 l0 l2 l3 l4 l0 h5
  else
    zgI h5 13 l0 24 fun v7 =>
    if v7 = 0 then
      fb_X12_goesAlong_134 n k76 l0 l2 l3 l4 l0 1 h5
    else
      fb_X12_goesAlong_133 n k76 l0 l2 l3 l4 l0 h5)
def fb_X12_goesAlong_76 (n : Nat) (k76 : Nat → Int32 → Int32 → Int32 → zH → Option (Unit × zH)) (l0 : Nat) (l2 : Int32) (l3 : Int32) (l4 : Int32) (h : zH) : Option (Unit × zH) :=
  if l3 ≤ l4 then
    fb_X12_goesAlong_143 n l0 l2 h
  else
    if l4 ≤ 0 then
      fb_X12_goesAlong_97 n k76 l0 l2 l3 l4 h
    else
      zgI h 13 l0 22 fun v1 =>
      zpI h 13 l0 22 (v1 + 1) fun h2 =>
      fb_X12_goesAlong_97 n k76 l0 l2 l3 l4 h2
def fb_X12_goesAlong_72 (n : Nat) (l0 : Nat) (l2 : Int32) (s0 : Int32) (h : zH) : Option (Unit × zH) :=
  zlp4 (fb_X12_goesAlong_76 n ) n l0 l2 s0 0 h
def f_X12_goesAlong (n : Nat) (a0 : Nat) (a1 : Int32) (a2 : Int32) (h : zH) : Option (Unit × zH) :=
  zpZ h 13 a0 25 1 fun h1 =>
  zpI h1 13 a0 23 a1 fun h2 =>
  zgI h2 13 a0 34 fun v3 =>
  zpI h2 13 a0 22 v3 fun h4 =>
  zgI h4 13 a0 22 fun v5 =>
  zck h4 13 a0 (zb (f_X12_codeAt n a0 v5 h4) fun r6 h7 =>
  zpI h7 13 a0 36 r6 fun h8 =>
  zgI h8 13 a0 22 fun v9 =>
  zpI h8 13 a0 22 (v9 + 1) fun h10 =>
  zpZ h10 13 a0 37 1 fun h11 =>
  zgI h11 13 a0 36 fun v12 =>
  if v12 = 28 then
    fb_X12_goesAlong_72 n a0 a2 0 h11
  else
    zgI h11 13 a0 36 fun v13 =>
    if v13 = 20 then
      fb_X12_goesAlong_72 n a0 a2 2 h11
    else
      fb_X12_goesAlong_72 n a0 a2 1 h11)
def f_X12_small (n : Nat) (a0 : Int64) (h : zH) : Option (Int32 × zH) :=
  if lg_cmp a0 0 < 0 then
    some ((-1), h)
  else
    if lg_cmp a0 1000000 ≤ 0 then
      some (Int64.toInt32 a0, h)
    else
      some ((-1), h)
def fb_X12_obeys_22 (n : Nat) (l0 : Nat) (s0 : Int32) (h : zH) : Option (Int32 × zH) :=
  zgR h 13 l0 39 fun v1 =>
  zaL h v1 0 fun v2 =>
  zb (f_X12_small n v2 h) fun r3 h4 =>
  zgR h4 13 l0 39 fun v5 =>
  zaL h4 v5 1 fun v6 =>
  zb (f_X12_small n v6 h4) fun r7 h8 =>
  zck h8 13 l0 (zb (f_X12_actsKept n l0 s0 r3 r7 h8) fun r9 h10 =>
  if 0 ≤ r9 then
    zpI h10 13 l0 28 r9 fun h11 =>
    some (r9, h11)
  else
    zgI h10 13 l0 28 fun v12 =>
    zpI h10 13 l0 28 v12 fun h13 =>
    some (r9, h13))
def f_X12_obeys (n : Nat) (a0 : Nat) (h : zH) : Option (Int32 × zH) :=
  zgI h 13 a0 36 fun v1 =>
  if v1 = 20 then
    fb_X12_obeys_22 n a0 0 h
  else
    zgI h 13 a0 36 fun v2 =>
    fb_X12_obeys_22 n a0 ((v2 - 22) + 1) h
def fb_X12_runs_67 (n : Nat) (k19 : Nat → Int32 → Int32 → Int32 → Int32 → zH → Option (Int32 × zH)) (l0 : Nat) (l1 : Int32) (l2 : Int32) (l3 : Int32) (l4 : Int32) (h : zH) : Option (Int32 × zH) :=
  k19 l0 l1 l2 l3 (l4 + 1) h
def fb_X12_runs_19 (n : Nat) (k19 : Nat → Int32 → Int32 → Int32 → Int32 → zH → Option (Int32 × zH)) (l0 : Nat) (l1 : Int32) (l2 : Int32) (l3 : Int32) (l4 : Int32) (h : zH) : Option (Int32 × zH) :=
  if l2 ≤ l4 then
    zpI h 13 l0 34 l3 fun h1 =>
    some (1, h1)
  else
    zck h 13 l0 (zb (f_X12_goesAlong n l0 l1 1 h) fun _ h3 =>
    zgI h3 13 l0 38 fun v4 =>
    if v4 = 0 then
      fb_X12_runs_67 n k19 l0 l1 l2 l3 l4 h3
    else
      zgI h3 13 l0 37 fun v5 =>
      if v5 = 0 then
        some (0, h3)
      else
        zck h3 13 l0 (zb (f_X12_obeys n l0 h3) fun r6 h7 =>
        if 0 ≤ r6 then
          zgI h7 13 l0 27 fun v8 =>
          zpI h7 13 l0 27 (v8 + 1) fun h9 =>
          fb_X12_runs_67 n k19 l0 l1 l2 l3 l4 h9
        else
          some (0, h7)))
def f_X12_runs (n : Nat) (a0 : Nat) (a1 : Int32) (h : zH) : Option (Int32 × zH) :=
  zck h 13 a0 (zb (f_X12_goesAlong n a0 a1 0 h) fun _ h2 =>
  zgI h2 13 a0 35 fun v3 =>
  zgI h2 13 a0 22 fun v4 =>
  zlp5 (fb_X12_runs_19 n ) n a0 a1 v3 v4 0 h2)
def fb_X12_orders_174 (n : Nat) (l0 : Nat) (h : zH) : Option (Int32 × zH) :=
  zgI h 13 l0 27 fun v1 =>
  zck h 13 l0 (zb (f_X12_good n l0 v1 h) fun r2 h3 =>
  some (r2, h3))
def fb_X12_orders_151 (n : Nat) (l0 : Nat) (l1 : Int32) (l3 : Int32) (h : zH) : Option (Int32 × zH) :=
  zpI h 13 l0 31 l1 fun h1 =>
  zpI h1 13 l0 33 l3 fun h2 =>
  zck h2 13 l0 (zb (f_X12_refuses n l0 (-3) h2) fun r3 h4 =>
  some (r3, h4))
def fb_X12_orders_123 (n : Nat) (k123 : Nat → Int32 → Int32 → Int32 → zH → Option (Int32 × zH)) (l0 : Nat) (l1 : Int32) (l3 : Int32) (l4 : Int32) (h : zH) : Option (Int32 × zH) :=
  if 3072 ≤ l4 then
    fb_X12_orders_151 n l0 l1 l3 h
  else
    zgR h 13 l0 29 fun v1 =>
    zgR h 13 l0 30 fun v2 =>
    zaI h 21 v2 l4 fun v3 =>
    zeI h v1 l4 v3 fun h4 =>
    k123 l0 l1 l3 (l4 + 1) h4
def fb_X12_orders_115 (n : Nat) (l0 : Nat) (l1 : Int32) (l3 : Int32) (h : zH) : Option (Int32 × zH) :=
  zck h 13 l0 (zb (f_X12_takesBack n l0 1 h) fun _ h2 =>
  zlp4 (fb_X12_orders_123 n ) n l0 l1 l3 0 h2)
def fb_X12_orders_96 (n : Nat) (k96 : Nat → Int32 → Int32 → Int32 → zH → Option (Int32 × zH)) (l0 : Nat) (l1 : Int32) (l2 : Int32) (l3 : Int32) (h : zH) : Option (Int32 × zH) :=
  zgI h 13 l0 34 fun v1 =>
  if l2 ≤ v1 then
    fb_X12_orders_174 n l0 h
  else
    zck h 13 l0 (zb (f_X12_runs n l0 l2 h) fun r2 h3 =>
    if r2 = 0 then
      fb_X12_orders_115 n l0 l1 l3 h3
    else
      k96 l0 l1 l2 (l3 + 1) h3)
def fb_X12_orders_52 (n : Nat) (l0 : Nat) (h : zH) : Option (Int32 × zH) :=
  zgI h 13 l0 31 fun v1 =>
  zck h 13 l0 (zb (f_X12_lays n l0 6 h) fun _ h3 =>
  zpI h3 13 l0 27 0 fun h4 =>
  zpI h4 13 l0 28 (-1) fun h5 =>
  zpI h5 13 l0 34 2400 fun h6 =>
  zgI h6 13 l0 34 fun v7 =>
  zgR h6 13 l0 2 fun v8 =>
  zaI h6 21 v8 214 fun v9 =>
  zlt (v7 + v9) fun x10 =>
  zlp4 (fb_X12_orders_96 n ) n l0 v1 x10 0 h6)
def fb_X12_orders_27 (n : Nat) (k27 : Nat → Int32 → zH → Option (Int32 × zH)) (l0 : Nat) (l1 : Int32) (h : zH) : Option (Int32 × zH) :=
  if 3072 ≤ l1 then
    fb_X12_orders_52 n l0 h
  else
    zgR h 13 l0 30 fun v1 =>
    zgR h 13 l0 29 fun v2 =>
    zaI h 21 v2 l1 fun v3 =>
    zeI h v1 l1 v3 fun h4 =>
    k27 l0 (l1 + 1) h4
def f_X12_orders (n : Nat) (a0 : Nat) (h : zH) : Option (Int32 × zH) :=
  zpI h 13 a0 33 (-1) fun h1 =>
  zck h1 13 a0 (zb (f_X12_readsAs n a0 1 h1) fun r2 h3 =>
  if r2 = 0 then
    zck h3 13 a0 (zb (f_X12_refuses n a0 (-6) h3) fun r6 h7 =>
    some (r6, h7))
  else
    zck h3 13 a0 (zb (f_X12_laysAside n a0 1 h3) fun _ h5 =>
    zlp2 (fb_X12_orders_27 n ) n a0 0 h5))
def f_X12_draws (n : Nat) (a0 : Nat) (a1 : Int32) (h : zH) : Option (Int32 × zH) :=
  zgI h 13 a0 42 fun v1 =>
  zpI h 13 a0 42 (Int64.toInt32 ((((1103 : Int64) * (Int32.toInt64 v1)) + 12345) - (((1103 : Int64) * (Int32.toInt64 v1)) + 12345) / 1000003 * 1000003)) fun h2 =>
  zgI h2 13 a0 42 fun v3 =>
  if a1 = 0 then none else
  some (v3 - v3 / a1 * a1, h2)
def f_X12_drawnAct (n : Nat) (a0 : Nat) (h : zH) : Option (Unit × zH) :=
  zck h 13 a0 (zb (f_X12_draws n a0 8 h) fun r1 h2 =>
  zck h2 13 a0 (zb (f_X12_draws n a0 6 h2) fun r3 h4 =>
  zck h4 13 a0 (zb (f_X12_draws n a0 9 h4) fun r5 h6 =>
  zswl r5 [
    (0, 48,
      zck h6 13 a0 (zb (f_X12_acts n a0 0 r3 r1 h6) fun r7 h8 =>
      some ((), h8))),
    (1, 59,
      zck h6 13 a0 (zb (f_X12_acts n a0 1 r3 0 h6) fun r9 h10 =>
      some ((), h10)))] (
      zck h6 13 a0 (zb (f_X12_acts n a0 r5 r1 0 h6) fun r11 h12 =>
      some ((), h12))))))
def f_X12_endedMany (n : Nat) (a0 : Nat) (h : zH) : Option (Int32 × zH) :=
  zgR h 13 a0 2 fun v1 =>
  zaI h 21 v1 130 fun v2 =>
  zgR h 13 a0 2 fun v3 =>
  zaI h 21 v3 129 fun v4 =>
  some (v2 - v4, h)
def fb_X12_days_20 (n : Nat) (l0 : Nat) (h : zH) : Option (Int32 × zH) :=
  zck h 13 l0 (zb (f_X12_refuses n l0 (-1) h) fun r1 h2 =>
  some (r1, h2))
def fb_X12_days_105 (n : Nat) (l0 : Nat) (l4 : Int32) (h : zH) : Option (Int32 × zH) :=
  zck h 13 l0 (zb (f_X12_takesBack n l0 0 h) fun _ h2 =>
  zck h2 13 l0 (zb (f_X12_good n l0 l4 h2) fun r3 h4 =>
  some (r3, h4)))
def fb_X12_days_76 (n : Nat) (k76 : Nat → Int32 → Int32 → zH → Option (Int32 × zH)) (l0 : Nat) (l4 : Int32) (l5 : Int32) (h : zH) : Option (Int32 × zH) :=
  if 24 ≤ l5 then
    fb_X12_days_105 n l0 l4 h
  else
    zgR h 13 l0 40 fun v1 =>
    zgR h 13 l0 2 fun v2 =>
    zaI h 21 v2 ((0 : Int32) + l5) fun v3 =>
    zeI h v1 l5 v3 fun h4 =>
    k76 l0 l4 (l5 + 1) h4
def fb_X12_days_65 (n : Nat) (l0 : Nat) (l3 : Int32) (h : zH) : Option (Int32 × zH) :=
  zck h 13 l0 (zb (f_X12_endedMany n l0 h) fun r1 h2 =>
  zlt (r1 - l3) fun x3 =>
  zlp3 (fb_X12_days_76 n ) n l0 x3 0 h2)
def fb_X12_days_49 (n : Nat) (k49 : Nat → Int32 → Int32 → Int32 → zH → Option (Int32 × zH)) (l0 : Nat) (l2 : Int32) (l3 : Int32) (l4 : Int32) (h : zH) : Option (Int32 × zH) :=
  if l2 ≤ l4 then
    fb_X12_days_65 n l0 l3 h
  else
    zck h 13 l0 (zb (f_X12_drawnAct n l0 h) fun _ h2 =>
    k49 l0 l2 l3 (l4 + 1) h2)
def f_X12_days (n : Nat) (a0 : Nat) (a1 : Int32) (a2 : Int32) (h : zH) : Option (Int32 × zH) :=
  zb (f_X12_lies n a1 0 1000000 h) fun r1 h2 =>
  if r1 = 0 then
    fb_X12_days_20 n a0 h2
  else
    zb (f_X12_lies n a2 1 60 h2) fun r3 h4 =>
    if r3 = 0 then
      fb_X12_days_20 n a0 h4
    else
      zpI h4 13 a0 42 a1 fun h5 =>
      zpZ h5 13 a0 41 1 fun h6 =>
      zck h6 13 a0 (zb (f_X12_laysAside n a0 0 h6) fun _ h8 =>
      zck h8 13 a0 (zb (f_X12_endedMany n a0 h8) fun r9 h10 =>
      zlp4 (fb_X12_days_49 n ) n a0 a2 r9 0 h10))
def f_X12_drawn (n : Nat) (a0 : Nat) (a1 : Int32) (h : zH) : Option (Int32 × zH) :=
  zgI h 13 a0 41 fun v1 =>
  if v1 = 0 then
    some ((-1), h)
  else
    zb (f_X12_isCell n a1 h) fun r2 h3 =>
    if r2 = 0 then
      some ((-1), h3)
    else
      zgR h3 13 a0 40 fun v4 =>
      zaI h3 21 v4 a1 fun v5 =>
      some (v5, h3)
def fb_X12_count_204 (n : Nat) (l0 : Nat) (l1 : Int32) (h : zH) : Option (Int32 × zH) :=
  zgR h 13 l0 2 fun v1 =>
  zb (f_X12_termAt n (l1 - 16) h) fun r2 h3 =>
  zaI h3 21 v1 r2 fun v4 =>
  some (v4, h3)
def f_X12_count (n : Nat) (a0 : Nat) (a1 : Int32) (h : zH) : Option (Int32 × zH) :=
  zswl a1 [
    (0, 92,
      zck h 13 a0 (zb (f_X12_listMany n a0 h) fun r1 h2 =>
      some (r1, h2))),
    (1, 97,
      zgR h 13 a0 2 fun v3 =>
      zaI h 21 v3 139 fun v4 =>
      some (v4, h)),
    (2, 106,
      zgR h 13 a0 2 fun v5 =>
      zaI h 21 v5 164 fun v6 =>
      some (v6, h)),
    (3, 115,
      zgR h 13 a0 2 fun v7 =>
      zaI h 21 v7 130 fun v8 =>
      some (v8, h)),
    (4, 124,
      zgR h 13 a0 2 fun v9 =>
      zaI h 21 v9 129 fun v10 =>
      some (v10, h)),
    (5, 133,
      zgR h 13 a0 2 fun v11 =>
      zaI h 21 v11 189 fun v12 =>
      some (v12, h)),
    (6, 142,
      zgR h 13 a0 2 fun v13 =>
      zaI h 21 v13 205 fun v14 =>
      some (v14, h)),
    (7, 151,
      zgR h 13 a0 2 fun v15 =>
      zaI h 21 v15 206 fun v16 =>
      some (v16, h)),
    (8, 160,
      zgI h 13 a0 31 fun v17 =>
      some (v17, h)),
    (9, 165,
      zgI h 13 a0 13 fun v18 =>
      some (v18, h)),
    (10, 170,
      zgR h 13 a0 1 fun v19 =>
      zaI h 21 v19 (a1 - 9) fun v20 =>
      some (v20, h)),
    (11, 170,
      zgR h 13 a0 1 fun v21 =>
      zaI h 21 v21 (a1 - 9) fun v22 =>
      some (v22, h)),
    (12, 170,
      zgR h 13 a0 1 fun v23 =>
      zaI h 21 v23 (a1 - 9) fun v24 =>
      some (v24, h)),
    (13, 180,
      zgR h 13 a0 1 fun v25 =>
      zaI h 21 v25 5 fun v26 =>
      some (v26, h)),
    (14, 187,
      zgR h 13 a0 1 fun v27 =>
      zaI h 21 v27 6 fun v28 =>
      some (v28, h)),
    (15, 195,
      zgR h 13 a0 2 fun v29 =>
      zaI h 21 v29 207 fun v30 =>
      some (v30, h)),
    (16, 204,
      fb_X12_count_204 n a0 a1 h),
    (17, 204,
      fb_X12_count_204 n a0 a1 h),
    (18, 204,
      fb_X12_count_204 n a0 a1 h)] (
      some ((-1), h))
def f_X12_status (n : Nat) (a0 : Nat) (h : zH) : Option (Int32 × zH) :=
  zgI h 13 a0 0 fun v1 =>
  some (v1, h)
