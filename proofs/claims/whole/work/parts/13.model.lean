/-! the model of each method, by program out of its bytecode -/
abbrev rm_X2_part : Room := { frames := 0, cells := 0, slots := 0, locals := 0 }
def m_X2_part (x1 : Int32) (S : St) : Option (Int32 × St) :=
  if (S 20 10) = 0 then
    some ((-1 : Int32), S)
  else
    if x1 = (0 : Int32) then
      some ((S 20 12), S)
    else
      if x1 = (1 : Int32) then
        some ((S 20 13), S)
      else
        if x1 = (2 : Int32) then
          if inb (x1 - (2 : Int32)) 3 = true then
          some ((S 9 (x1 - (2 : Int32)).toNatClampNeg), S)
          else none
        else
          if x1 = (3 : Int32) then
            if inb (x1 - (2 : Int32)) 3 = true then
            some ((S 9 (x1 - (2 : Int32)).toNatClampNeg), S)
            else none
          else
            if x1 = (4 : Int32) then
              if inb (x1 - (2 : Int32)) 3 = true then
              some ((S 9 (x1 - (2 : Int32)).toNatClampNeg), S)
              else none
            else
              if x1 = (5 : Int32) then
                some ((S 20 14), S)
              else
                if x1 = (6 : Int32) then
                  some ((S 20 15), S)
                else
                  some ((-1 : Int32), S)

abbrev rm_X7_byteAt : Room := { frames := 0, cells := 0, slots := 0, locals := 0 }
def m_X7_byteAt (x1 : Int32) (S : St) : Option (Int32 × St) :=
  if x1 < 0 then
    some ((-1 : Int32), S)
  else
    if (S 20 6) ≤ x1 then
      some ((-1 : Int32), S)
    else
      if inb x1 1076 = true then
      some ((S 7 x1.toNatClampNeg), S)
      else none

abbrev rm_X5_countAt : Room := { frames := 1, cells := 0, slots := 0, locals := 21 }
def m_X5_countAt (x1 : Int32) (S : St) : Option (Int32 × St) :=
  (m_X7_byteAt x1 S).bind fun r1 =>
  (m_X7_byteAt (x1 + (1 : Int32)) r1.2).bind fun r2 =>
  if r2.1 = (-1 : Int32) then
    some ((-1 : Int32), r2.2)
  else
    some ((((256 : Int32) * r1.1) + r2.1), r2.2)

abbrev rm_X6_setToFirst : Room := { frames := 0, cells := 0, slots := 0, locals := 0 }
def m_X6_setToFirst_L12 (i : Nat) : Nat → Int32 → St → Option (Int32 × St)
  | 0, _, _ => none
  | n + 1, x1, S =>
    if (3 : Int32) ≤ x1 then
      some (0, S)
    else
      if inb x1 3 = true then
      m_X6_setToFirst_L12 i n (x1 + (1 : Int32)) (st S (12 + i) x1.toNatClampNeg (0 : Int32))
      else none
def m_X6_setToFirst (i : Nat)  (S : St) : Option (Int32 × St) :=
  m_X6_setToFirst_L12 i 10000 (0 : Int32) (st (st S 20 (17 + 2 * i) (0 : Int32)) 20 (18 + 2 * i) (1 : Int32))

abbrev rm_X6_copyFrom : Room := { frames := 0, cells := 0, slots := 0, locals := 0 }
def m_X6_copyFrom_L18 (i : Nat) (j : Nat) : Nat → Int32 → St → Option (Int32 × St)
  | 0, _, _ => none
  | n + 1, x2, S =>
    if (3 : Int32) ≤ x2 then
      some (0, S)
    else
      if inb x2 3 = true then
      if inb x2 3 = true then
      m_X6_copyFrom_L18 i j n (x2 + (1 : Int32)) (st S (12 + i) x2.toNatClampNeg (S (12 + j) x2.toNatClampNeg))
      else none
      else none
def m_X6_copyFrom (i : Nat) (j : Nat)  (S : St) : Option (Int32 × St) :=
  m_X6_copyFrom_L18 i j 10000 (0 : Int32) (st (st S 20 (17 + 2 * i) (S 20 (17 + 2 * j))) 20 (18 + 2 * i) ((st S 20 (17 + 2 * i) (S 20 (17 + 2 * j))) 20 (18 + 2 * j)))

abbrev rm_X5_sizeOf : Room := { frames := 0, cells := 0, slots := 0, locals := 0 }
def m_X5_sizeOf_L31 (x0 : Int32) (S : St) : Option (Int32 × St) :=
  if x0 < (192 : Int32) then
    if x0 = (0 : Int32) then
      some ((1 : Int32), S)
    else
      if x0 = (1 : Int32) then
        some ((0 : Int32), S)
      else
        if x0 = (2 : Int32) then
          some ((2 : Int32), S)
        else
          if x0 = (3 : Int32) then
            some ((0 : Int32), S)
          else
            if x0 = (4 : Int32) then
              some ((0 : Int32), S)
            else
              if x0 = (5 : Int32) then
                some ((0 : Int32), S)
              else
                if x0 = (6 : Int32) then
                  some ((0 : Int32), S)
                else
                  if x0 = (7 : Int32) then
                    some ((0 : Int32), S)
                  else
                    if x0 = (8 : Int32) then
                      some ((0 : Int32), S)
                    else
                      if x0 = (9 : Int32) then
                        some ((0 : Int32), S)
                      else
                        if x0 = (10 : Int32) then
                          some ((1 : Int32), S)
                        else
                          if x0 = (11 : Int32) then
                            some ((1 : Int32), S)
                          else
                            if x0 = (12 : Int32) then
                              some ((3 : Int32), S)
                            else
                              if x0 = (13 : Int32) then
                                some ((2 : Int32), S)
                              else
                                if x0 = (14 : Int32) then
                                  some ((2 : Int32), S)
                                else
                                  some ((0 : Int32), S)
  else
    if (195 : Int32) ≤ x0 then
      if x0 = (0 : Int32) then
        some ((1 : Int32), S)
      else
        if x0 = (1 : Int32) then
          some ((0 : Int32), S)
        else
          if x0 = (2 : Int32) then
            some ((2 : Int32), S)
          else
            if x0 = (3 : Int32) then
              some ((0 : Int32), S)
            else
              if x0 = (4 : Int32) then
                some ((0 : Int32), S)
              else
                if x0 = (5 : Int32) then
                  some ((0 : Int32), S)
                else
                  if x0 = (6 : Int32) then
                    some ((0 : Int32), S)
                  else
                    if x0 = (7 : Int32) then
                      some ((0 : Int32), S)
                    else
                      if x0 = (8 : Int32) then
                        some ((0 : Int32), S)
                      else
                        if x0 = (9 : Int32) then
                          some ((0 : Int32), S)
                        else
                          if x0 = (10 : Int32) then
                            some ((1 : Int32), S)
                          else
                            if x0 = (11 : Int32) then
                              some ((1 : Int32), S)
                            else
                              if x0 = (12 : Int32) then
                                some ((3 : Int32), S)
                              else
                                if x0 = (13 : Int32) then
                                  some ((2 : Int32), S)
                                else
                                  if x0 = (14 : Int32) then
                                    some ((2 : Int32), S)
                                  else
                                    some ((0 : Int32), S)
    else
      some ((1 : Int32), S)
def m_X5_sizeOf (x0 : Int32) (S : St) : Option (Int32 × St) :=
  if x0 < (64 : Int32) then
    if x0 < (128 : Int32) then
      m_X5_sizeOf_L31 x0 S
    else
      if (131 : Int32) ≤ x0 then
        m_X5_sizeOf_L31 x0 S
      else
        some ((2 : Int32), S)
  else
    if (128 : Int32) ≤ x0 then
      if x0 < (128 : Int32) then
        m_X5_sizeOf_L31 x0 S
      else
        if (131 : Int32) ≤ x0 then
          m_X5_sizeOf_L31 x0 S
        else
          some ((2 : Int32), S)
    else
      some ((1 : Int32), S)

abbrev rm_X5_moveBy : Room := { frames := 0, cells := 0, slots := 0, locals := 0 }
def m_X5_moveBy (x1 : Int32) (S : St) : Option (Int32 × St) :=
  if ((st S 20 8 ((S 20 8) + x1)) 20 9) ≤ ((st S 20 8 ((S 20 8) + x1)) 20 8) then
    bz (0 : Int32) (st S 20 8 ((S 20 8) + x1))
  else
    bz (1 : Int32) (st S 20 8 ((S 20 8) + x1))

abbrev rm_X5_followRange : Room := { frames := 1, cells := 0, slots := 0, locals := 21 }
def m_X5_followRange (x1 : Int32) (x2 : Int32) (S : St) : Option (Int32 × St) :=
  if (128 : Int32) ≤ x1 then
    if (192 : Int32) ≤ x1 then
      if inb (x1 - (192 : Int32)) 3 = true then
      bz (1 : Int32) (st S 15 (x1 - (192 : Int32)).toNatClampNeg (0 : Int32))
      else none
    else
      if inb (x1 - (128 : Int32)) 3 = true then
      bz (1 : Int32) (st S 15 (x1 - (128 : Int32)).toNatClampNeg x2)
      else none
  else
    (m_X5_moveBy (x1 - (64 : Int32)) S).bind fun r1 =>
    bz r1.1 r1.2

abbrev rm_X5_putOnPile : Room := { frames := 1, cells := 0, slots := 0, locals := 22 }
def m_X5_putOnPile  (S : St) : Option (Int32 × St) :=
  if (S 20 7) < (4 : Int32) then
    if inb (S 20 7) 4 = true then
    (m_X6_copyFrom (4 + (S 20 7).toNatClampNeg) 3 S).bind fun r1 =>
    bz (1 : Int32) (st r1.2 20 7 ((r1.2 20 7) + (1 : Int32)))
    else none
  else
    bz (0 : Int32) S

abbrev rm_X5_takeOffPile : Room := { frames := 1, cells := 0, slots := 0, locals := 22 }
def m_X5_takeOffPile  (S : St) : Option (Int32 × St) :=
  if 0 < (S 20 7) then
    if inb ((st S 20 7 ((S 20 7) - (1 : Int32))) 20 7) 4 = true then
    (m_X6_copyFrom 3 (4 + ((st S 20 7 ((S 20 7) - (1 : Int32))) 20 7).toNatClampNeg) (st S 20 7 ((S 20 7) - (1 : Int32)))).bind fun r1 =>
    bz (1 : Int32) r1.2
    else none
  else
    bz (0 : Int32) S

abbrev rm_X5_setLink : Room := { frames := 0, cells := 0, slots := 0, locals := 0 }
def m_X5_setLink (x1 : Int32) (S : St) : Option (Int32 × St) :=
  if (1 : Int32) < x1 then
    bz (0 : Int32) (st S 20 23 x1)
  else
    bz (1 : Int32) (st S 20 23 x1)

abbrev rm_X5_follow : Room := { frames := 2, cells := 0, slots := 0, locals := 43 }
def m_X5_follow (x1 : Int32) (S : St) : Option (Int32 × St) :=
  (m_X7_byteAt x1 S).bind fun r1 =>
  (m_X7_byteAt (x1 + (1 : Int32)) r1.2).bind fun r2 =>
  if r1.1 = (0 : Int32) then
    bz (1 : Int32) r2.2
  else
    if r1.1 = (1 : Int32) then
      (m_X5_followRange r1.1 r2.1 r2.2).bind fun r3 =>
      bz r3.1 r3.2
    else
      if r1.1 = (2 : Int32) then
        (m_X5_moveBy r2.1 r2.2).bind fun r4 =>
        bz r4.1 r4.2
      else
        if r1.1 = (3 : Int32) then
          (m_X5_followRange r1.1 r2.1 r2.2).bind fun r5 =>
          bz r5.1 r5.2
        else
          if r1.1 = (4 : Int32) then
            (m_X5_followRange r1.1 r2.1 r2.2).bind fun r6 =>
            bz r6.1 r6.2
          else
            if r1.1 = (5 : Int32) then
              (m_X5_followRange r1.1 r2.1 r2.2).bind fun r7 =>
              bz r7.1 r7.2
            else
              if r1.1 = (6 : Int32) then
                (m_X5_followRange r1.1 r2.1 r2.2).bind fun r8 =>
                bz r8.1 r8.2
              else
                if r1.1 = (7 : Int32) then
                  (m_X5_followRange r1.1 r2.1 r2.2).bind fun r9 =>
                  bz r9.1 r9.2
                else
                  if r1.1 = (8 : Int32) then
                    (m_X5_followRange r1.1 r2.1 r2.2).bind fun r10 =>
                    bz r10.1 r10.2
                  else
                    if r1.1 = (9 : Int32) then
                      (m_X5_followRange r1.1 r2.1 r2.2).bind fun r11 =>
                      bz r11.1 r11.2
                    else
                      if r1.1 = (10 : Int32) then
                        (m_X5_putOnPile  r2.2).bind fun r12 =>
                        bz r12.1 r12.2
                      else
                        if r1.1 = (11 : Int32) then
                          (m_X5_takeOffPile  r2.2).bind fun r13 =>
                          bz r13.1 r13.2
                        else
                          if r1.1 = (12 : Int32) then
                            (m_X7_byteAt (x1 + (2 : Int32)) r2.2).bind fun r14 =>
                            (m_X5_setLink r2.1 (st r14.2 20 24 r14.1)).bind fun r15 =>
                            bz r15.1 r15.2
                          else
                            if r1.1 = (13 : Int32) then
                              (m_X5_setLink r2.1 r2.2).bind fun r16 =>
                              bz r16.1 r16.2
                            else
                              if r1.1 = (14 : Int32) then
                                bz (1 : Int32) (st r2.2 20 24 r2.1)
                              else
                                (m_X5_followRange r1.1 r2.1 r2.2).bind fun r17 =>
                                bz r17.1 r17.2

abbrev rm_X5_readProgram : Room := { frames := 3, cells := 0, slots := 0, locals := 66 }
def m_X5_readProgram_L29 : Nat → Int32 → Int32 → Int32 → St → Option (Int32 × St)
  | 0, _, _, _, _ => none
  | n + 1, x2, x3, x5, S =>
    if x2 ≤ x5 then
      bz (1 : Int32) S
    else
      (m_X7_byteAt x5 S).bind fun r3 =>
      (m_X5_sizeOf r3.1 r3.2).bind fun r4 =>
      if r4.1 = 0 then
        bz (0 : Int32) r4.2
      else
        if (x2 - x5) < r4.1 then
          bz (0 : Int32) r4.2
        else
          (m_X5_follow x5 r4.2).bind fun r5 =>
          if r5.1 = 0 then
            bz (0 : Int32) r5.2
          else
            if x3 < (r5.2 20 8) then
              m_X5_readProgram_L29 n x2 x3 (x5 + r4.1) r5.2
            else
              (m_X6_copyFrom 2 3 r5.2).bind fun r6 =>
              m_X5_readProgram_L29 n x2 x3 (x5 + r4.1) r6.2
def m_X5_readProgram (x1 : Int32) (x2 : Int32) (x3 : Int32) (S : St) : Option (Int32 × St) :=
  (m_X6_setToFirst 3 S).bind fun r1 =>
  (m_X6_copyFrom 2 3 r1.2).bind fun r2 =>
  m_X5_readProgram_L29 10000 x2 x3 x1 (st r2.2 20 7 (0 : Int32))

abbrev rm_X5_lookUp : Room := { frames := 4, cells := 0, slots := 0, locals := 91 }
def m_X5_lookUp_L4 : Nat → Int32 → Int32 → St → Option (Int32 × St)
  | 0, _, _, _ => none
  | n + 1, x1, x3, S =>
    if (S 20 6) ≤ x3 then
      some ((-1 : Int32), S)
    else
      (m_X5_countAt x3 S).bind fun r1 =>
      if r1.1 < (2 : Int32) then
        some ((-2 : Int32), r1.2)
      else
        if r1.1 ≤ (((r1.2 20 6) - x3) - (2 : Int32)) then
          (m_X7_byteAt (x3 + (2 : Int32)) r1.2).bind fun r2 =>
          (m_X7_byteAt (x3 + (3 : Int32)) (st r2.2 20 8 r2.1)).bind fun r3 =>
          if x1 < ((st r3.2 20 9 (((st r2.2 20 8 r2.1) 20 8) + r3.1)) 20 8) then
            m_X5_lookUp_L4 n x1 (x3 + ((2 : Int32) + r1.1)) (st r3.2 20 9 (((st r2.2 20 8 r2.1) 20 8) + r3.1))
          else
            if ((st r3.2 20 9 (((st r2.2 20 8 r2.1) 20 8) + r3.1)) 20 9) ≤ x1 then
              m_X5_lookUp_L4 n x1 (x3 + ((2 : Int32) + r1.1)) (st r3.2 20 9 (((st r2.2 20 8 r2.1) 20 8) + r3.1))
            else
              (m_X5_readProgram (x3 + (4 : Int32)) ((x3 + (2 : Int32)) + r1.1) x1 (st r3.2 20 9 (((st r2.2 20 8 r2.1) 20 8) + r3.1))).bind fun r4 =>
              if r4.1 = 0 then
                some ((-2 : Int32), r4.2)
              else
                some ((0 : Int32), r4.2)
        else
          some ((-2 : Int32), r1.2)
def m_X5_lookUp (x1 : Int32) (S : St) : Option (Int32 × St) :=
  m_X5_lookUp_L4 10000 x1 (0 : Int32) S

abbrev rm_X2_isWord : Room := { frames := 0, cells := 0, slots := 0, locals := 0 }
def m_X2_isWord (x1 : Int32) (S : St) : Option (Int32 × St) :=
  if x1 < 0 then
    bz (0 : Int32) S
  else
    if (40 : Int32) ≤ x1 then
      bz (0 : Int32) S
    else
      bz (1 : Int32) S

abbrev rm_X2_wordAt : Room := { frames := 1, cells := 0, slots := 0, locals := 21 }
def m_X2_wordAt (x1 : Int32) (S : St) : Option (Int32 × St) :=
  (m_X2_isWord x1 S).bind fun r1 =>
  if r1.1 = 0 then
    some ((0 : Int32), r1.2)
  else
    if inb x1 40 = true then
    some ((r1.2 8 x1.toNatClampNeg), r1.2)
    else none

abbrev rm_X0_addBehind : Room := { frames := 2, cells := 0, slots := 0, locals := 42 }
def m_X0_addBehind_L130 (k93 : Int32 → Int32 → Int32 → Int32 → St → Option (Int32 × St)) (x3 : Int32) (x4 : Int32) (x5 : Int32) (x6 : Int32) (x7 : Int32) (S : St) : Option (Int32 × St) :=
  if x7 = 0 then
    if inb ((x3 + (2 : Int32)) + x6) 100 = true then
    if inb ((x4 + (2 : Int32)) + x6) 100 = true then
    k93 x3 x4 x5 (x6 + (1 : Int32)) (st S 11 ((x4 + (2 : Int32)) + x6).toNatClampNeg (S 11 ((x3 + (2 : Int32)) + x6).toNatClampNeg))
    else none
    else none
  else
    (m_X2_wordAt (x5 - x7) S).bind fun r4 =>
    if inb ((x4 + (2 : Int32)) + x6) 100 = true then
    k93 x3 x4 x5 (x6 + (1 : Int32)) (st r4.2 11 ((x4 + (2 : Int32)) + x6).toNatClampNeg r4.1)
    else none
def m_X0_addBehind_L93 : Nat → Int32 → Int32 → Int32 → Int32 → St → Option (Int32 × St)
  | 0, _, _, _, _, _ => none
  | n + 1, x3, x4, x5, x6, S =>
    if (3 : Int32) ≤ x6 then
      bz (1 : Int32) S
    else
      if inb x6 3 = true then
      if (S 14 x6.toNatClampNeg) = 0 then
        m_X0_addBehind_L130 (m_X0_addBehind_L93 n) x3 x4 x5 x6 (S 14 x6.toNatClampNeg) S
      else
        (m_X2_isWord (x5 - (S 14 x6.toNatClampNeg)) S).bind fun r3 =>
        if r3.1 = 0 then
          bz (0 : Int32) r3.2
        else
          m_X0_addBehind_L130 (m_X0_addBehind_L93 n) x3 x4 x5 x6 (S 14 x6.toNatClampNeg) r3.2
      else none
def m_X0_addBehind_L42 (x3 : Int32) (x4 : Int32) (z0 : Int32) (z1 : Int32) (S : St) : Option (Int32 × St) :=
  (m_X2_isWord ((z0 + z1) - (1 : Int32)) S).bind fun r1 =>
  if r1.1 = 0 then
    bz (0 : Int32) r1.2
  else
    (m_X2_wordAt ((z0 + z1) - (1 : Int32)) r1.2).bind fun r2 =>
    if inb x4 100 = true then
    if inb (x4 + (1 : Int32)) 100 = true then
    m_X0_addBehind_L93 10000 x3 x4 (z0 + z1) (0 : Int32) (st (st r2.2 11 x4.toNatClampNeg r2.1) 11 (x4 + (1 : Int32)).toNatClampNeg (z0 + z1))
    else none
    else none
def m_X0_addBehind (x1 : Int32) (S : St) : Option (Int32 × St) :=
  if (S 20 21) = (1 : Int32) then
    if inb (((x1 * (5 : Int32)) + (2 : Int32)) + (0 : Int32)) 100 = true then
    m_X0_addBehind_L42 (x1 * (5 : Int32)) ((x1 * (5 : Int32)) + (5 : Int32)) (S 20 22) (S 11 (((x1 * (5 : Int32)) + (2 : Int32)) + (0 : Int32)).toNatClampNeg) S
    else none
  else
    if inb ((x1 * (5 : Int32)) + (1 : Int32)) 100 = true then
    m_X0_addBehind_L42 (x1 * (5 : Int32)) ((x1 * (5 : Int32)) + (5 : Int32)) (S 20 22) (S 11 ((x1 * (5 : Int32)) + (1 : Int32)).toNatClampNeg) S
    else none

abbrev rm_X0_findFrames : Room := { frames := 5, cells := 0, slots := 0, locals := 114 }
def m_X0_findFrames_L89 (k46 : Int32 → St → Option (Int32 × St)) (x1 : Int32) (z0 : Int32) (S : St) : Option (Int32 × St) :=
  if z0 = 0 then
    some ((-1 : Int32), S)
  else
    (m_X0_addBehind x1 S).bind fun r3 =>
    if r3.1 = 0 then
      some ((-1 : Int32), r3.2)
    else
      k46 (x1 + (1 : Int32)) r3.2
def m_X0_findFrames_L117 (x1 : Int32) (S : St) : Option (Int32 × St) :=
  if inb (x1 * (5 : Int32)) 100 = true then
  if (S 11 (x1 * (5 : Int32)).toNatClampNeg) = (255 : Int32) then
    some (((st S 20 16 (x1 + (1 : Int32))) 20 16), (st S 20 16 (x1 + (1 : Int32))))
  else
    some ((-1 : Int32), S)
  else none
def m_X0_findFrames_L46 : Nat → Int32 → St → Option (Int32 × St)
  | 0, _, _ => none
  | n + 1, x1, S =>
    if (19 : Int32) ≤ x1 then
      m_X0_findFrames_L117 x1 S
    else
      if inb (x1 * (5 : Int32)) 100 = true then
      if (S 11 (x1 * (5 : Int32)).toNatClampNeg) = (255 : Int32) then
        m_X0_findFrames_L117 x1 S
      else
        if inb (x1 * (5 : Int32)) 100 = true then
        (m_X5_lookUp (S 11 (x1 * (5 : Int32)).toNatClampNeg) S).bind fun r2 =>
        if r2.1 = 0 then
          m_X0_findFrames_L89 (m_X0_findFrames_L46 n) x1 (1 : Int32) r2.2
        else
          m_X0_findFrames_L89 (m_X0_findFrames_L46 n) x1 (0 : Int32) r2.2
        else none
      else none
def m_X0_findFrames_L19 : Nat → Int32 → St → Option (Int32 × St)
  | 0, _, _ => none
  | n + 1, x1, S =>
    if (5 : Int32) ≤ x1 then
      m_X0_findFrames_L46 10000 (0 : Int32) S
    else
      (m_X2_part x1 S).bind fun r1 =>
      if inb x1 100 = true then
      m_X0_findFrames_L19 n (x1 + (1 : Int32)) (st r1.2 11 x1.toNatClampNeg r1.1)
      else none
def m_X0_findFrames  (S : St) : Option (Int32 × St) :=
  if ((st S 20 16 (0 : Int32)) 20 11) = 0 then
    some ((-1 : Int32), (st S 20 16 (0 : Int32)))
  else
    m_X0_findFrames_L19 10000 (0 : Int32) (st S 20 16 (0 : Int32))

abbrev rm_X0_part : Room := { frames := 0, cells := 0, slots := 0, locals := 0 }
def m_X0_part (x1 : Int32) (x2 : Int32) (S : St) : Option (Int32 × St) :=
  if x1 < 0 then
    some ((-1 : Int32), S)
  else
    if (S 20 16) ≤ x1 then
      some ((-1 : Int32), S)
    else
      if x2 < 0 then
        some ((-1 : Int32), S)
      else
        if x2 < (5 : Int32) then
          if inb ((x1 * (5 : Int32)) + x2) 100 = true then
          some ((S 11 ((x1 * (5 : Int32)) + x2).toNatClampNeg), S)
          else none
        else
          some ((-1 : Int32), S)

abbrev rm_X1_forget : Room := { frames := 0, cells := 0, slots := 0, locals := 0 }
def m_X1_forget_L5 : Nat → Int32 → St → Option (Int32 × St)
  | 0, _, _ => none
  | n + 1, x1, S =>
    if (S 20 5) < x1 then
      some (0, S)
    else
      if inb x1 97 = true then
      if inb x1 97 = true then
      m_X1_forget_L5 n (x1 + (1 : Int32)) (st (st S 3 x1.toNatClampNeg (0 : Int32)) 4 x1.toNatClampNeg (0 : Int32))
      else none
      else none
def m_X1_forget  (S : St) : Option (Int32 × St) :=
  m_X1_forget_L5 10000 (S 20 4) S

abbrev rm_X4_codeAt : Room := { frames := 0, cells := 0, slots := 0, locals := 0 }
def m_X4_codeAt (x1 : Int32) (S : St) : Option (Int32 × St) :=
  if x1 < 0 then
    some ((-1 : Int32), S)
  else
    if (S 20 0) ≤ x1 then
      some ((-1 : Int32), S)
    else
      if inb x1 96 = true then
      some ((S 0 x1.toNatClampNeg), S)
      else none

abbrev rm_X4_namesRegister : Room := { frames := 0, cells := 0, slots := 0, locals := 0 }
def m_X4_namesRegister (x0 : Int32) (S : St) : Option (Int32 × St) :=
  if x0 = (1 : Int32) then
    bz (1 : Int32) S
  else
    if x0 = (2 : Int32) then
      bz (1 : Int32) S
    else
      if x0 = (11 : Int32) then
        bz (1 : Int32) S
      else
        if x0 = (14 : Int32) then
          bz (1 : Int32) S
        else
          if x0 = (15 : Int32) then
            bz (1 : Int32) S
          else
            bz (0 : Int32) S

abbrev rm_X4_wholeSize : Room := { frames := 1, cells := 0, slots := 0, locals := 21 }
def m_X4_wholeSize (x1 : Int32) (x2 : Int32) (S : St) : Option (Int32 × St) :=
  (m_X4_codeAt x1 S).bind fun r1 =>
  if r1.1 < 0 then
    some ((0 : Int32), r1.2)
  else
    if r1.1 < (16 : Int32) then
      if inb r1.1 16 = true then
      if (szs r1.1.toNatClampNeg) ≤ (x2 - x1) then
        (m_X4_namesRegister r1.1 r1.2).bind fun r2 =>
        if r2.1 = 0 then
          some ((szs r1.1.toNatClampNeg), r2.2)
        else
          (m_X4_codeAt (x1 + (1 : Int32)) r2.2).bind fun r3 =>
          if r3.1 < (3 : Int32) then
            some ((szs r1.1.toNatClampNeg), r3.2)
          else
            some ((0 : Int32), r3.2)
      else
        some ((0 : Int32), r1.2)
      else none
    else
      some ((0 : Int32), r1.2)

abbrev rm_X1_markBegins : Room := { frames := 2, cells := 0, slots := 0, locals := 45 }
def m_X1_markBegins_L7 : Nat → Int32 → Int32 → St → Option (Int32 × St)
  | 0, _, _, _ => none
  | n + 1, x1, x2, S =>
    if (S 20 5) ≤ x1 then
      some (0, S)
    else
      if x2 ≤ 0 then
        some (0, S)
      else
        if inb x1 97 = true then
        (m_X4_wholeSize x1 ((st S 4 x1.toNatClampNeg (1 : Int32)) 20 5) (st S 4 x1.toNatClampNeg (1 : Int32))).bind fun r1 =>
        m_X1_markBegins_L7 n (x1 + r1.1) r1.1 r1.2
        else none
def m_X1_markBegins  (S : St) : Option (Int32 × St) :=
  m_X1_markBegins_L7 10000 (S 20 4) (1 : Int32) S

abbrev rm_X1_isKnown : Room := { frames := 0, cells := 0, slots := 0, locals := 0 }
def m_X1_isKnown_L41 : Nat → Int32 → Int32 → Int32 → St → Option (Int32 × St)
  | 0, _, _, _, _ => none
  | n + 1, x2, x3, x4, S =>
    if (3 : Int32) ≤ x4 then
      bz x3 S
    else
      if x3 = 0 then
        m_X1_isKnown_L41 n x2 (0 : Int32) (x4 + (1 : Int32)) S
      else
        if inb ((x2 + (2 : Int32)) + x4) 485 = true then
        if inb x4 3 = true then
        if (S 5 ((x2 + (2 : Int32)) + x4).toNatClampNeg) = (S 6 x4.toNatClampNeg) then
          m_X1_isKnown_L41 n x2 (1 : Int32) (x4 + (1 : Int32)) S
        else
          m_X1_isKnown_L41 n x2 (0 : Int32) (x4 + (1 : Int32)) S
        else none
        else none
def m_X1_isKnown (x1 : Int32) (S : St) : Option (Int32 × St) :=
  if inb (x1 * (5 : Int32)) 485 = true then
  if (S 5 (x1 * (5 : Int32)).toNatClampNeg) = (S 20 2) then
    if inb ((x1 * (5 : Int32)) + (1 : Int32)) 485 = true then
    if (S 5 ((x1 * (5 : Int32)) + (1 : Int32)).toNatClampNeg) = (S 20 3) then
      m_X1_isKnown_L41 10000 (x1 * (5 : Int32)) (1 : Int32) (0 : Int32) S
    else
      m_X1_isKnown_L41 10000 (x1 * (5 : Int32)) (0 : Int32) (0 : Int32) S
    else none
  else
    m_X1_isKnown_L41 10000 (x1 * (5 : Int32)) (0 : Int32) (0 : Int32) S
  else none

abbrev rm_X1_learn : Room := { frames := 1, cells := 0, slots := 0, locals := 24 }
def m_X1_learn_L62 : Nat → Int32 → Int32 → St → Option (Int32 × St)
  | 0, _, _, _ => none
  | n + 1, x2, x3, S =>
    if (3 : Int32) ≤ x3 then
      some ((0 : Int32), S)
    else
      if inb x3 3 = true then
      if inb ((x2 + (2 : Int32)) + x3) 485 = true then
      m_X1_learn_L62 n x2 (x3 + (1 : Int32)) (st S 5 ((x2 + (2 : Int32)) + x3).toNatClampNeg (S 6 x3.toNatClampNeg))
      else none
      else none
def m_X1_learn (x1 : Int32) (S : St) : Option (Int32 × St) :=
  if inb x1 97 = true then
  if (S 3 x1.toNatClampNeg) = 0 then
    if inb x1 97 = true then
    if inb (x1 * (5 : Int32)) 485 = true then
    if inb ((x1 * (5 : Int32)) + (1 : Int32)) 485 = true then
    m_X1_learn_L62 10000 (x1 * (5 : Int32)) (0 : Int32) (st (st (st S 3 x1.toNatClampNeg (1 : Int32)) 5 (x1 * (5 : Int32)).toNatClampNeg ((st S 3 x1.toNatClampNeg (1 : Int32)) 20 2)) 5 ((x1 * (5 : Int32)) + (1 : Int32)).toNatClampNeg ((st (st S 3 x1.toNatClampNeg (1 : Int32)) 5 (x1 * (5 : Int32)).toNatClampNeg ((st S 3 x1.toNatClampNeg (1 : Int32)) 20 2)) 20 3))
    else none
    else none
    else none
  else
    (m_X1_isKnown x1 S).bind fun r1 =>
    if r1.1 = 0 then
      some (((700 : Int32) + x1), r1.2)
    else
      some ((0 : Int32), r1.2)
  else none

abbrev rm_X1_lowestToLookAt : Room := { frames := 0, cells := 0, slots := 0, locals := 0 }
def m_X1_lowestToLookAt_L5 : Nat → Int32 → St → Option (Int32 × St)
  | 0, _, _ => none
  | n + 1, x1, S =>
    if (S 20 5) < x1 then
      some ((-1 : Int32), S)
    else
      if inb x1 97 = true then
      if (S 3 x1.toNatClampNeg) = (1 : Int32) then
        some (x1, S)
      else
        m_X1_lowestToLookAt_L5 n (x1 + (1 : Int32)) S
      else none
def m_X1_lowestToLookAt  (S : St) : Option (Int32 × St) :=
  m_X1_lowestToLookAt_L5 10000 (S 20 4) S

abbrev rm_X1_recall : Room := { frames := 0, cells := 0, slots := 0, locals := 0 }
def m_X1_recall_L28 : Nat → Int32 → Int32 → St → Option (Int32 × St)
  | 0, _, _, _ => none
  | n + 1, x2, x3, S =>
    if (3 : Int32) ≤ x3 then
      some (0, S)
    else
      if inb ((x2 + (2 : Int32)) + x3) 485 = true then
      if inb x3 3 = true then
      m_X1_recall_L28 n x2 (x3 + (1 : Int32)) (st S 6 x3.toNatClampNeg (S 5 ((x2 + (2 : Int32)) + x3).toNatClampNeg))
      else none
      else none
def m_X1_recall (x1 : Int32) (S : St) : Option (Int32 × St) :=
  if inb (x1 * (5 : Int32)) 485 = true then
  if inb ((x1 * (5 : Int32)) + (1 : Int32)) 485 = true then
  m_X1_recall_L28 10000 (x1 * (5 : Int32)) (0 : Int32) (st (st S 20 2 (S 5 (x1 * (5 : Int32)).toNatClampNeg)) 20 3 ((st S 20 2 (S 5 (x1 * (5 : Int32)).toNatClampNeg)) 5 ((x1 * (5 : Int32)) + (1 : Int32)).toNatClampNeg))
  else none
  else none

abbrev rm_X1_gain : Room := { frames := 0, cells := 0, slots := 0, locals := 0 }
def m_X1_gain (x1 : Int32) (S : St) : Option (Int32 × St) :=
  if ((st S 20 2 ((S 20 2) + x1)) 20 2) ≤ (30 : Int32) then
    some ((0 : Int32), (st S 20 2 ((S 20 2) + x1)))
  else
    some ((9 : Int32), (st S 20 2 ((S 20 2) + x1)))

abbrev rm_X1_save : Room := { frames := 0, cells := 0, slots := 0, locals := 0 }
def m_X1_save (x1 : Int32) (x2 : Int32) (S : St) : Option (Int32 × St) :=
  if inb x1 3 = true then
  if (S 6 x1.toNatClampNeg) = 0 then
    if inb x1 3 = true then
    some (0, (st S 6 x1.toNatClampNeg x2))
    else none
  else
    some (0, S)
  else none

abbrev rm_X1_pushRegister : Room := { frames := 1, cells := 0, slots := 0, locals := 22 }
def m_X1_pushRegister (x1 : Int32) (S : St) : Option (Int32 × St) :=
  (m_X1_gain (1 : Int32) S).bind fun r1 =>
  if r1.1 = 0 then
    (m_X1_save x1 (r1.2 20 2) r1.2).bind fun r2 =>
    some (r1.1, r2.2)
  else
    some (r1.1, r1.2)

abbrev rm_X1_give : Room := { frames := 0, cells := 0, slots := 0, locals := 0 }
def m_X1_give (x1 : Int32) (x2 : Int32) (S : St) : Option (Int32 × St) :=
  if inb x1 3 = true then
  if (S 6 x1.toNatClampNeg) = 0 then
    some ((4 : Int32), S)
  else
    if inb x1 3 = true then
    if (S 6 x1.toNatClampNeg) = x2 then
      if inb x1 3 = true then
      if x1 = 0 then
        some ((0 : Int32), (st (st S 6 x1.toNatClampNeg (0 : Int32)) 20 3 (0 : Int32)))
      else
        some ((0 : Int32), (st S 6 x1.toNatClampNeg (0 : Int32)))
      else none
    else
      if x1 = 0 then
        some ((0 : Int32), (st S 20 3 (0 : Int32)))
      else
        some ((0 : Int32), S)
    else none
  else none

abbrev rm_X1_lose : Room := { frames := 0, cells := 0, slots := 0, locals := 0 }
def m_X1_lose_L26 : Nat → Int32 → Int32 → St → Option (Int32 × St)
  | 0, _, _, _ => none
  | n + 1, x2, x3, S =>
    if (3 : Int32) ≤ x3 then
      if x2 = 0 then
        some ((0 : Int32), S)
      else
        some ((5 : Int32), S)
    else
      if x2 = 0 then
        if inb x3 3 = true then
        if (S 6 x3.toNatClampNeg) ≤ (S 20 2) then
          m_X1_lose_L26 n (0 : Int32) (x3 + (1 : Int32)) S
        else
          m_X1_lose_L26 n (1 : Int32) (x3 + (1 : Int32)) S
        else none
      else
        m_X1_lose_L26 n (1 : Int32) (x3 + (1 : Int32)) S
def m_X1_lose (x1 : Int32) (S : St) : Option (Int32 × St) :=
  if (1 : Int32) ≤ ((st S 20 2 ((S 20 2) - x1)) 20 2) then
    m_X1_lose_L26 10000 (0 : Int32) (0 : Int32) (st S 20 2 ((S 20 2) - x1))
  else
    m_X1_lose_L26 10000 (1 : Int32) (0 : Int32) (st S 20 2 ((S 20 2) - x1))

abbrev rm_X1_popRegister : Room := { frames := 1, cells := 0, slots := 0, locals := 23 }
def m_X1_popRegister (x1 : Int32) (S : St) : Option (Int32 × St) :=
  if (S 20 2) = (1 : Int32) then
    some ((5 : Int32), S)
  else
    (m_X1_give x1 (S 20 2) S).bind fun r1 =>
    if r1.1 = 0 then
      (m_X1_lose (1 : Int32) r1.2).bind fun r2 =>
      some (r2.1, r2.2)
    else
      some (r1.1, r1.2)

abbrev rm_X1_spoil : Room := { frames := 0, cells := 0, slots := 0, locals := 0 }
def m_X1_spoil (x1 : Int32) (S : St) : Option (Int32 × St) :=
  if inb x1 3 = true then
  if (S 6 x1.toNatClampNeg) = 0 then
    some ((4 : Int32), S)
  else
    if x1 = 0 then
      some ((0 : Int32), (st S 20 3 (0 : Int32)))
    else
      some ((0 : Int32), S)
  else none

abbrev rm_X1_setFrame : Room := { frames := 1, cells := 0, slots := 0, locals := 21 }
def m_X1_setFrame  (S : St) : Option (Int32 × St) :=
  (m_X1_spoil (0 : Int32) S).bind fun r1 =>
  if r1.1 = 0 then
    some (r1.1, (st r1.2 20 3 (r1.2 20 2)))
  else
    some (r1.1, r1.2)

abbrev rm_X1_dropToFrame : Room := { frames := 1, cells := 0, slots := 0, locals := 23 }
def m_X1_dropToFrame  (S : St) : Option (Int32 × St) :=
  if (S 20 3) = 0 then
    some ((5 : Int32), S)
  else
    if (S 20 3) ≤ (S 20 2) then
      (m_X1_lose ((S 20 2) - (S 20 3)) S).bind fun r1 =>
      some (r1.1, r1.2)
    else
      some ((5 : Int32), S)

abbrev rm_X4_startsFunction : Room := { frames := 0, cells := 0, slots := 0, locals := 0 }
def m_X4_startsFunction_L2 : Nat → Int32 → Int32 → St → Option (Int32 × St)
  | 0, _, _, _ => none
  | n + 1, x1, x2, S =>
    if (S 20 1) ≤ x2 then
      bz (0 : Int32) S
    else
      if inb x2 5 = true then
      if (S 1 x2.toNatClampNeg) = x1 then
        bz (1 : Int32) S
      else
        m_X4_startsFunction_L2 n x1 (x2 + (1 : Int32)) S
      else none
def m_X4_startsFunction (x1 : Int32) (S : St) : Option (Int32 × St) :=
  m_X4_startsFunction_L2 10000 x1 (0 : Int32) S

abbrev rm_X1_isAsBeforeCall : Room := { frames := 0, cells := 0, slots := 0, locals := 0 }
def m_X1_isAsBeforeCall_L16 : Nat → Int32 → Int32 → St → Option (Int32 × St)
  | 0, _, _, _ => none
  | n + 1, x1, x2, S =>
    if (3 : Int32) ≤ x2 then
      bz x1 S
    else
      if x1 = 0 then
        m_X1_isAsBeforeCall_L16 n (0 : Int32) (x2 + (1 : Int32)) S
      else
        if inb x2 3 = true then
        if (S 6 x2.toNatClampNeg) = 0 then
          m_X1_isAsBeforeCall_L16 n (1 : Int32) (x2 + (1 : Int32)) S
        else
          m_X1_isAsBeforeCall_L16 n (0 : Int32) (x2 + (1 : Int32)) S
        else none
def m_X1_isAsBeforeCall  (S : St) : Option (Int32 × St) :=
  if (S 20 2) = (1 : Int32) then
    m_X1_isAsBeforeCall_L16 10000 (1 : Int32) (0 : Int32) S
  else
    m_X1_isAsBeforeCall_L16 10000 (0 : Int32) (0 : Int32) S

abbrev rm_X1_inFunction : Room := { frames := 0, cells := 0, slots := 0, locals := 0 }
def m_X1_inFunction (x1 : Int32) (S : St) : Option (Int32 × St) :=
  if x1 < (S 20 4) then
    bz (0 : Int32) S
  else
    if (S 20 5) ≤ x1 then
      bz (0 : Int32) S
    else
      bz (1 : Int32) S

abbrev rm_X1_jumpTo : Room := { frames := 1, cells := 0, slots := 0, locals := 22 }
def m_X1_jumpTo (x1 : Int32) (S : St) : Option (Int32 × St) :=
  (m_X1_inFunction x1 S).bind fun r1 =>
  if r1.1 = 0 then
    (m_X4_startsFunction x1 r1.2).bind fun r2 =>
    if r2.1 = 0 then
      some ((3 : Int32), r2.2)
    else
      (m_X1_isAsBeforeCall  r2.2).bind fun r3 =>
      if r3.1 = 0 then
        some ((6 : Int32), r3.2)
      else
        some ((0 : Int32), r3.2)
  else
    if inb x1 97 = true then
    if (r1.2 4 x1.toNatClampNeg) = 0 then
      some ((3 : Int32), r1.2)
    else
      some ((0 : Int32), r1.2)
    else none

abbrev rm_X1_holdsSaved : Room := { frames := 0, cells := 0, slots := 0, locals := 0 }
def m_X1_holdsSaved_L2 : Nat → Int32 → Int32 → St → Option (Int32 × St)
  | 0, _, _, _ => none
  | n + 1, x1, x2, S =>
    if (3 : Int32) ≤ x2 then
      bz (0 : Int32) S
    else
      if inb x2 3 = true then
      if (S 6 x2.toNatClampNeg) = x1 then
        bz (1 : Int32) S
      else
        m_X1_holdsSaved_L2 n x1 (x2 + (1 : Int32)) S
      else none
def m_X1_holdsSaved (x1 : Int32) (S : St) : Option (Int32 × St) :=
  m_X1_holdsSaved_L2 10000 x1 (0 : Int32) S

abbrev rm_X1_store : Room := { frames := 1, cells := 0, slots := 0, locals := 22 }
def m_X1_store (x1 : Int32) (x2 : Int32) (S : St) : Option (Int32 × St) :=
  if x2 < (2 : Int32) then
    some ((8 : Int32), S)
  else
    if (S 20 2) < x2 then
      some ((8 : Int32), S)
    else
      (m_X1_holdsSaved x2 S).bind fun r1 =>
      if r1.1 = 0 then
        (m_X1_save x1 x2 r1.2).bind fun r2 =>
        some ((0 : Int32), r2.2)
      else
        some ((8 : Int32), r1.2)

abbrev rm_X1_effect : Room := { frames := 2, cells := 0, slots := 0, locals := 45 }
def m_X1_effect (x1 : Int32) (x2 : Int32) (x3 : Int32) (S : St) : Option (Int32 × St) :=
  if x1 = (1 : Int32) then
    (m_X1_pushRegister x2 S).bind fun r1 =>
    some (r1.1, r1.2)
  else
    if x1 = (2 : Int32) then
      (m_X1_popRegister x2 S).bind fun r2 =>
      some (r2.1, r2.2)
    else
      if x1 = (3 : Int32) then
        (m_X1_gain x2 S).bind fun r3 =>
        some (r3.1, r3.2)
      else
        if x1 = (4 : Int32) then
          (m_X1_lose x2 S).bind fun r4 =>
          some (r4.1, r4.2)
        else
          if x1 = (5 : Int32) then
            (m_X1_setFrame  S).bind fun r5 =>
            some (r5.1, r5.2)
          else
            if x1 = (6 : Int32) then
              (m_X1_dropToFrame  S).bind fun r6 =>
              some (r6.1, r6.2)
            else
              if x1 = (7 : Int32) then
                (m_X4_startsFunction x2 S).bind fun r7 =>
                if r7.1 = 0 then
                  some ((3 : Int32), r7.2)
                else
                  some ((0 : Int32), r7.2)
              else
                if x1 = (8 : Int32) then
                  (m_X1_isAsBeforeCall  S).bind fun r8 =>
                  if r8.1 = 0 then
                    some ((6 : Int32), r8.2)
                  else
                    some ((0 : Int32), r8.2)
                else
                  if x1 = (9 : Int32) then
                    (m_X1_jumpTo x2 S).bind fun r9 =>
                    some (r9.1, r9.2)
                  else
                    if x1 = (10 : Int32) then
                      (m_X1_inFunction x2 S).bind fun r10 =>
                      if r10.1 = 0 then
                        some ((3 : Int32), r10.2)
                      else
                        if inb x2 97 = true then
                        if (r10.2 4 x2.toNatClampNeg) = 0 then
                          some ((3 : Int32), r10.2)
                        else
                          some ((0 : Int32), r10.2)
                        else none
                    else
                      if x1 = (11 : Int32) then
                        (m_X1_spoil x2 S).bind fun r11 =>
                        some (r11.1, r11.2)
                      else
                        if x1 = (12 : Int32) then
                          some ((0 : Int32), S)
                        else
                          if x1 = (13 : Int32) then
                            some ((0 : Int32), S)
                          else
                            if x1 = (14 : Int32) then
                              (m_X1_store x2 ((S 20 2) - x3) S).bind fun r12 =>
                              some (r12.1, r12.2)
                            else
                              if x1 = (15 : Int32) then
                                if ((S 20 2) - (1 : Int32)) ≤ x3 then
                                  some ((8 : Int32), S)
                                else
                                  (m_X1_give x2 ((S 20 2) - x3) S).bind fun r13 =>
                                  some (r13.1, r13.2)
                              else
                                some ((0 : Int32), S)

abbrev rm_X1_lookAt : Room := { frames := 3, cells := 0, slots := 0, locals := 68 }
def m_X1_lookAt_L138 (x4 : Int32) (x6 : Int32) (S : St) : Option (Int32 × St) :=
  (m_X1_inFunction x4 S).bind fun r9 =>
  if r9.1 = 0 then
    if x6 = 0 then
      if (0 : Int32) = 0 then
        some (x6, r9.2)
      else
        (m_X1_learn x4 r9.2).bind fun r10 =>
        some (r10.1, r10.2)
    else
      some (x6, r9.2)
  else
    if x6 = 0 then
      if (1 : Int32) = 0 then
        some (x6, r9.2)
      else
        (m_X1_learn x4 r9.2).bind fun r11 =>
        some (r11.1, r11.2)
    else
      some (x6, r9.2)
def m_X1_lookAt_L124 (x3 : Int32) (x4 : Int32) (z0 : Int32) (S : St) : Option (Int32 × St) :=
  if x3 = (9 : Int32) then
    m_X1_lookAt_L138 x4 z0 S
  else
    if x3 = (10 : Int32) then
      m_X1_lookAt_L138 x4 z0 S
    else
      if z0 = 0 then
        if (0 : Int32) = 0 then
          some (z0, S)
        else
          (m_X1_learn x4 S).bind fun r8 =>
          some (r8.1, r8.2)
      else
        some (z0, S)
def m_X1_lookAt (x1 : Int32) (S : St) : Option (Int32 × St) :=
  if inb x1 97 = true then
  if x1 = ((st S 3 x1.toNatClampNeg (2 : Int32)) 20 5) then
    some (((200 : Int32) + x1), (st S 3 x1.toNatClampNeg (2 : Int32)))
  else
    (m_X4_wholeSize x1 ((st S 3 x1.toNatClampNeg (2 : Int32)) 20 5) (st S 3 x1.toNatClampNeg (2 : Int32))).bind fun r1 =>
    if r1.1 = 0 then
      some (((100 : Int32) + x1), r1.2)
    else
      (m_X1_recall x1 r1.2).bind fun r2 =>
      (m_X4_codeAt x1 r2.2).bind fun r3 =>
      (m_X4_codeAt (x1 + (1 : Int32)) r3.2).bind fun r4 =>
      (m_X4_codeAt (x1 + (2 : Int32)) r4.2).bind fun r5 =>
      (m_X1_effect r3.1 r4.1 r5.1 r5.2).bind fun r6 =>
      if r6.1 = 0 then
        if r3.1 = (8 : Int32) then
          m_X1_lookAt_L124 r3.1 r4.1 (0 : Int32) r6.2
        else
          if r3.1 = (9 : Int32) then
            m_X1_lookAt_L124 r3.1 r4.1 (0 : Int32) r6.2
          else
            (m_X1_learn (x1 + r1.1) r6.2).bind fun r7 =>
            m_X1_lookAt_L124 r3.1 r4.1 r7.1 r7.2
      else
        some ((((100 : Int32) * r6.1) + x1), r6.2)
  else none

abbrev rm_X1_findOut : Room := { frames := 4, cells := 0, slots := 0, locals := 95 }
def m_X1_findOut_L66 : Nat → Int32 → Int32 → Int32 → St → Option (Int32 × St)
  | 0, _, _, _, _ => none
  | n + 1, x3, x4, x5, S =>
    if (96 : Int32) < x5 then
      some (x3, S)
    else
      if x3 = 0 then
        if x4 = (-1 : Int32) then
          some (x3, S)
        else
          (m_X1_lookAt x4 S).bind fun r5 =>
          (m_X1_lowestToLookAt  r5.2).bind fun r6 =>
          m_X1_findOut_L66 n r5.1 r6.1 (x5 + (1 : Int32)) r6.2
      else
        some (x3, S)
def m_X1_findOut_L30 : Nat → Int32 → St → Option (Int32 × St)
  | 0, _, _ => none
  | n + 1, x3, S =>
    if (3 : Int32) ≤ x3 then
      (m_X1_learn (S 20 4) S).bind fun r3 =>
      (m_X1_lowestToLookAt  r3.2).bind fun r4 =>
      m_X1_findOut_L66 10000 r3.1 r4.1 (0 : Int32) r4.2
    else
      if inb x3 3 = true then
      m_X1_findOut_L30 n (x3 + (1 : Int32)) (st S 6 x3.toNatClampNeg (0 : Int32))
      else none
def m_X1_findOut (x1 : Int32) (x2 : Int32) (S : St) : Option (Int32 × St) :=
  (m_X1_forget  (st (st S 20 4 x1) 20 5 x2)).bind fun r1 =>
  (m_X1_markBegins  r1.2).bind fun r2 =>
  m_X1_findOut_L30 10000 (0 : Int32) (st (st r2.2 20 2 (1 : Int32)) 20 3 (0 : Int32))

abbrev rm_X1_fillRow : Room := { frames := 1, cells := 0, slots := 0, locals := 23 }
def m_X1_fillRow_L56 : Nat → Int32 → St → Option (Int32 × St)
  | 0, _, _ => none
  | n + 1, x3, S =>
    if (3 : Int32) ≤ x3 then
      bz (1 : Int32) S
    else
      if inb x3 3 = true then
      if inb x3 3 = true then
      m_X1_fillRow_L56 n (x3 + (1 : Int32)) (st S 13 x3.toNatClampNeg (S 6 x3.toNatClampNeg))
      else none
      else none
def m_X1_fillRow_L29 (z1 : Int32) (S : St) : Option (Int32 × St) :=
  if ((st S 20 19 z1) 20 3) = 0 then
    m_X1_fillRow_L56 10000 (0 : Int32) (st (st S 20 19 z1) 20 20 ((st S 20 19 z1) 20 2))
  else
    m_X1_fillRow_L56 10000 (0 : Int32) (st (st S 20 19 z1) 20 20 ((st S 20 19 z1) 20 3))
def m_X1_fillRow (x1 : Int32) (S : St) : Option (Int32 × St) :=
  if inb x1 97 = true then
  if (S 3 x1.toNatClampNeg) = 0 then
    bz (0 : Int32) S
  else
    (m_X1_recall x1 S).bind fun r1 =>
    if (r1.2 20 3) = 0 then
      m_X1_fillRow_L29 (0 : Int32) r1.2
    else
      m_X1_fillRow_L29 (1 : Int32) r1.2
  else none

abbrev rm_X2_start : Room := { frames := 0, cells := 0, slots := 0, locals := 0 }
def m_X2_start_L15 : Nat → Int32 → Int32 → Int32 → Int32 → Int32 → St → Option (Int32 × St)
  | 0, _, _, _, _, _, _ => none
  | n + 1, x1, x2, x3, x4, x5, S =>
    if (40 : Int32) ≤ x5 then
      if inb ((st S 20 13 (39 : Int32)) 20 13) 40 = true then
      if inb (0 : Int32) 3 = true then
      if inb (1 : Int32) 3 = true then
      if inb (2 : Int32) 3 = true then
      if inb (0 : Int32) 40 = true then
      if inb (0 : Int32) 5 = true then
      bz (1 : Int32) (st (st (st (st (st (st (st (st (st (st (st S 20 13 (39 : Int32)) 8 ((st S 20 13 (39 : Int32)) 20 13).toNatClampNeg (255 : Int32)) 9 (0 : Int32).toNatClampNeg x1) 9 (1 : Int32).toNatClampNeg x2) 9 (2 : Int32).toNatClampNeg x3) 20 14 x4) 10 (0 : Int32).toNatClampNeg (255 : Int32)) 20 15 (1 : Int32)) 20 12 ((st (st (st (st (st (st (st (st S 20 13 (39 : Int32)) 8 ((st S 20 13 (39 : Int32)) 20 13).toNatClampNeg (255 : Int32)) 9 (0 : Int32).toNatClampNeg x1) 9 (1 : Int32).toNatClampNeg x2) 9 (2 : Int32).toNatClampNeg x3) 20 14 x4) 10 (0 : Int32).toNatClampNeg (255 : Int32)) 20 15 (1 : Int32)) 1 (0 : Int32).toNatClampNeg)) 20 10 (1 : Int32)) 20 11 (1 : Int32))
      else none
      else none
      else none
      else none
      else none
      else none
    else
      if inb x5 40 = true then
      m_X2_start_L15 n x1 x2 x3 x4 (x5 + (1 : Int32)) (st S 8 x5.toNatClampNeg (0 : Int32))
      else none
def m_X2_start (x1 : Int32) (x2 : Int32) (x3 : Int32) (x4 : Int32) (S : St) : Option (Int32 × St) :=
  if (S 20 1) = 0 then
    bz (0 : Int32) S
  else
    m_X2_start_L15 10000 x1 x2 x3 x4 (0 : Int32) S

abbrev rm_X2_end : Room := { frames := 0, cells := 0, slots := 0, locals := 0 }
def m_X2_end  (S : St) : Option (Int32 × St) :=
  some (0, (st (st S 20 11 (0 : Int32)) 20 12 (255 : Int32)))

abbrev rm_X2_storeWord : Room := { frames := 1, cells := 0, slots := 0, locals := 21 }
def m_X2_storeWord (x1 : Int32) (x2 : Int32) (S : St) : Option (Int32 × St) :=
  (m_X2_isWord x1 S).bind fun r1 =>
  if r1.1 = 0 then
    bz (0 : Int32) r1.2
  else
    if inb x1 40 = true then
    bz (1 : Int32) (st r1.2 8 x1.toNatClampNeg x2)
    else none

abbrev rm_X2_setPointer : Room := { frames := 0, cells := 0, slots := 0, locals := 0 }
def m_X2_setPointer (x1 : Int32) (S : St) : Option (Int32 × St) :=
  if x1 < 0 then
    bz (0 : Int32) S
  else
    if x1 ≤ (40 : Int32) then
      bz (1 : Int32) (st S 20 13 x1)
    else
      bz (0 : Int32) S

abbrev rm_X2_pushWord : Room := { frames := 2, cells := 0, slots := 0, locals := 43 }
def m_X2_pushWord (x1 : Int32) (S : St) : Option (Int32 × St) :=
  (m_X2_storeWord ((S 20 13) - (1 : Int32)) x1 S).bind fun r1 =>
  if r1.1 = 0 then
    bz (0 : Int32) r1.2
  else
    (m_X2_setPointer ((r1.2 20 13) - (1 : Int32)) r1.2).bind fun r2 =>
    if r2.1 = 0 then
      bz (0 : Int32) r2.2
    else
      bz (1 : Int32) r2.2

abbrev rm_X2_goTo : Room := { frames := 0, cells := 0, slots := 0, locals := 0 }
def m_X2_goTo (x1 : Int32) (S : St) : Option (Int32 × St) :=
  bz (1 : Int32) (st S 20 12 x1)

abbrev rm_X2_callPlace : Room := { frames := 3, cells := 0, slots := 0, locals := 64 }
def m_X2_callPlace (x1 : Int32) (x2 : Int32) (S : St) : Option (Int32 × St) :=
  if (40 : Int32) ≤ (S 20 15) then
    bz (0 : Int32) S
  else
    (m_X2_pushWord x2 S).bind fun r1 =>
    if r1.1 = 0 then
      bz (0 : Int32) r1.2
    else
      if inb (r1.2 20 15) 40 = true then
      (m_X2_goTo x1 (st (st r1.2 10 (r1.2 20 15).toNatClampNeg x2) 20 15 (((st r1.2 10 (r1.2 20 15).toNatClampNeg x2) 20 15) + (1 : Int32)))).bind fun r2 =>
      bz r2.1 r2.2
      else none

abbrev rm_X2_returnToCaller : Room := { frames := 1, cells := 0, slots := 0, locals := 21 }
def m_X2_returnToCaller  (S : St) : Option (Int32 × St) :=
  (m_X2_isWord (S 20 13) S).bind fun r1 =>
  if r1.1 = 0 then
    bz (0 : Int32) r1.2
  else
    if inb (r1.2 20 13) 40 = true then
    if ((st (st r1.2 20 12 (r1.2 8 (r1.2 20 13).toNatClampNeg)) 20 13 (((st r1.2 20 12 (r1.2 8 (r1.2 20 13).toNatClampNeg)) 20 13) + (1 : Int32))) 20 15) ≤ 0 then
      if ((st (st r1.2 20 12 (r1.2 8 (r1.2 20 13).toNatClampNeg)) 20 13 (((st r1.2 20 12 (r1.2 8 (r1.2 20 13).toNatClampNeg)) 20 13) + (1 : Int32))) 20 12) = (255 : Int32) then
        (m_X2_end  (st (st r1.2 20 12 (r1.2 8 (r1.2 20 13).toNatClampNeg)) 20 13 (((st r1.2 20 12 (r1.2 8 (r1.2 20 13).toNatClampNeg)) 20 13) + (1 : Int32)))).bind fun r2 =>
        bz (1 : Int32) r2.2
      else
        bz (1 : Int32) (st (st r1.2 20 12 (r1.2 8 (r1.2 20 13).toNatClampNeg)) 20 13 (((st r1.2 20 12 (r1.2 8 (r1.2 20 13).toNatClampNeg)) 20 13) + (1 : Int32)))
    else
      if ((st (st (st r1.2 20 12 (r1.2 8 (r1.2 20 13).toNatClampNeg)) 20 13 (((st r1.2 20 12 (r1.2 8 (r1.2 20 13).toNatClampNeg)) 20 13) + (1 : Int32))) 20 15 (((st (st r1.2 20 12 (r1.2 8 (r1.2 20 13).toNatClampNeg)) 20 13 (((st r1.2 20 12 (r1.2 8 (r1.2 20 13).toNatClampNeg)) 20 13) + (1 : Int32))) 20 15) - (1 : Int32))) 20 12) = (255 : Int32) then
        (m_X2_end  (st (st (st r1.2 20 12 (r1.2 8 (r1.2 20 13).toNatClampNeg)) 20 13 (((st r1.2 20 12 (r1.2 8 (r1.2 20 13).toNatClampNeg)) 20 13) + (1 : Int32))) 20 15 (((st (st r1.2 20 12 (r1.2 8 (r1.2 20 13).toNatClampNeg)) 20 13 (((st r1.2 20 12 (r1.2 8 (r1.2 20 13).toNatClampNeg)) 20 13) + (1 : Int32))) 20 15) - (1 : Int32)))).bind fun r3 =>
        bz (1 : Int32) r3.2
      else
        bz (1 : Int32) (st (st (st r1.2 20 12 (r1.2 8 (r1.2 20 13).toNatClampNeg)) 20 13 (((st r1.2 20 12 (r1.2 8 (r1.2 20 13).toNatClampNeg)) 20 13) + (1 : Int32))) 20 15 (((st (st r1.2 20 12 (r1.2 8 (r1.2 20 13).toNatClampNeg)) 20 13 (((st r1.2 20 12 (r1.2 8 (r1.2 20 13).toNatClampNeg)) 20 13) + (1 : Int32))) 20 15) - (1 : Int32)))
    else none

abbrev rm_X2_loadRegister : Room := { frames := 1, cells := 0, slots := 0, locals := 21 }
def m_X2_loadRegister (x1 : Int32) (x2 : Int32) (S : St) : Option (Int32 × St) :=
  (m_X2_isWord x2 S).bind fun r1 =>
  if r1.1 = 0 then
    bz (0 : Int32) r1.2
  else
    if inb x2 40 = true then
    if inb x1 3 = true then
    bz (1 : Int32) (st r1.2 9 x1.toNatClampNeg (r1.2 8 x2.toNatClampNeg))
    else none
    else none

abbrev rm_X2_carryOut : Room := { frames := 3, cells := 0, slots := 0, locals := 64 }
def m_X2_carryOut (x1 : Int32) (x2 : Int32) (x3 : Int32) (S : St) : Option (Int32 × St) :=
  if x1 = (1 : Int32) then
    if inb x2 3 = true then
    (m_X2_pushWord (S 9 x2.toNatClampNeg) S).bind fun r1 =>
    bz r1.1 r1.2
    else none
  else
    if x1 = (2 : Int32) then
      (m_X2_loadRegister x2 (S 20 13) S).bind fun r2 =>
      if r2.1 = 0 then
        bz (0 : Int32) r2.2
      else
        (m_X2_setPointer ((r2.2 20 13) + (1 : Int32)) r2.2).bind fun r3 =>
        if r3.1 = 0 then
          bz (0 : Int32) r3.2
        else
          bz (1 : Int32) r3.2
    else
      if x1 = (3 : Int32) then
        (m_X2_setPointer ((S 20 13) - x2) S).bind fun r4 =>
        bz r4.1 r4.2
      else
        if x1 = (4 : Int32) then
          (m_X2_setPointer ((S 20 13) + x2) S).bind fun r5 =>
          bz r5.1 r5.2
        else
          if x1 = (5 : Int32) then
            if inb (0 : Int32) 3 = true then
            bz (1 : Int32) (st S 9 (0 : Int32).toNatClampNeg (S 20 13))
            else none
          else
            if x1 = (6 : Int32) then
              if inb (0 : Int32) 3 = true then
              (m_X2_setPointer (S 9 (0 : Int32).toNatClampNeg) S).bind fun r6 =>
              bz r6.1 r6.2
              else none
            else
              if x1 = (7 : Int32) then
                bz (1 : Int32) S
              else
                if x1 = (8 : Int32) then
                  bz (1 : Int32) S
                else
                  if x1 = (9 : Int32) then
                    bz (1 : Int32) S
                  else
                    if x1 = (10 : Int32) then
                      bz (1 : Int32) S
                    else
                      if x1 = (11 : Int32) then
                        if inb x2 3 = true then
                        bz (1 : Int32) (st S 9 x2.toNatClampNeg x3)
                        else none
                      else
                        if x1 = (12 : Int32) then
                          bz (1 : Int32) (st S 20 14 x2)
                        else
                          if x1 = (13 : Int32) then
                            bz (1 : Int32) (st S 20 14 ((S 20 14) - (1 : Int32)))
                          else
                            if x1 = (14 : Int32) then
                              if inb x2 3 = true then
                              (m_X2_storeWord ((S 20 13) + x3) (S 9 x2.toNatClampNeg) S).bind fun r7 =>
                              bz r7.1 r7.2
                              else none
                            else
                              if x1 = (15 : Int32) then
                                (m_X2_loadRegister x2 ((S 20 13) + x3) S).bind fun r8 =>
                                bz r8.1 r8.2
                              else
                                bz (1 : Int32) S

abbrev rm_X2_advance : Room := { frames := 4, cells := 0, slots := 0, locals := 87 }
def m_X2_advance_L191 (x5 : Int32) (S : St) : Option (Int32 × St) :=
  if x5 = 0 then
    some ((2 : Int32), S)
  else
    some ((0 : Int32), S)
def m_X2_advance_L29 (z0 : Int32) (S : St) : Option (Int32 × St) :=
  if z0 = 0 then
    some ((1 : Int32), S)
  else
    (m_X4_codeAt (S 20 12) S).bind fun r2 =>
    (m_X4_codeAt ((r2.2 20 12) + (1 : Int32)) r2.2).bind fun r3 =>
    if r2.1 = (7 : Int32) then
      (m_X2_callPlace r3.1 ((r3.2 20 12) + z0) r3.2).bind fun r4 =>
      m_X2_advance_L191 r4.1 r4.2
    else
      if r2.1 = (8 : Int32) then
        (m_X2_returnToCaller  r3.2).bind fun r5 =>
        m_X2_advance_L191 r5.1 r5.2
      else
        if r2.1 = (9 : Int32) then
          (m_X2_goTo r3.1 r3.2).bind fun r6 =>
          m_X2_advance_L191 r6.1 r6.2
        else
          if r2.1 = (10 : Int32) then
            if (r3.2 20 14) = 0 then
              (m_X2_goTo ((r3.2 20 12) + z0) r3.2).bind fun r7 =>
              m_X2_advance_L191 r7.1 r7.2
            else
              (m_X2_goTo r3.1 r3.2).bind fun r8 =>
              m_X2_advance_L191 r8.1 r8.2
          else
            (m_X4_codeAt ((r3.2 20 12) + (2 : Int32)) r3.2).bind fun r9 =>
            (m_X2_carryOut r2.1 r3.1 r9.1 r9.2).bind fun r10 =>
            if r10.1 = 0 then
              m_X2_advance_L191 (0 : Int32) r10.2
            else
              (m_X2_goTo ((r3.2 20 12) + z0) r10.2).bind fun r11 =>
              if r11.1 = 0 then
                m_X2_advance_L191 (0 : Int32) r11.2
              else
                m_X2_advance_L191 (1 : Int32) r11.2
def m_X2_advance  (S : St) : Option (Int32 × St) :=
  if (S 20 11) = 0 then
    m_X2_advance_L29 (0 : Int32) S
  else
    (m_X4_wholeSize (S 20 12) (S 20 0) S).bind fun r1 =>
    m_X2_advance_L29 r1.1 r1.2

abbrev rm_X2_returnOf : Room := { frames := 0, cells := 0, slots := 0, locals := 0 }
def m_X2_returnOf (x1 : Int32) (S : St) : Option (Int32 × St) :=
  if x1 < 0 then
    some ((-1 : Int32), S)
  else
    if (S 20 15) ≤ x1 then
      some ((-1 : Int32), S)
    else
      if inb (((S 20 15) - (1 : Int32)) - x1) 40 = true then
      some ((S 10 (((S 20 15) - (1 : Int32)) - x1).toNatClampNeg), S)
      else none

abbrev rm_X7_empty : Room := { frames := 0, cells := 0, slots := 0, locals := 0 }
def m_X7_empty  (S : St) : Option (Int32 × St) :=
  some (0, (st S 20 6 (0 : Int32)))

abbrev rm_X7_append : Room := { frames := 0, cells := 0, slots := 0, locals := 0 }
def m_X7_append (x1 : Int32) (S : St) : Option (Int32 × St) :=
  if (1076 : Int32) ≤ (S 20 6) then
    some (0, S)
  else
    if inb (S 20 6) 1076 = true then
    some (0, (st (st S 7 (S 20 6).toNatClampNeg x1) 20 6 (((st S 7 (S 20 6).toNatClampNeg x1) 20 6) + (1 : Int32))))
    else none

abbrev rm_X6_isSameAs : Room := { frames := 0, cells := 0, slots := 0, locals := 0 }
def m_X6_isSameAs_L30 (i : Nat) (j : Nat) : Nat → Int32 → Int32 → St → Option (Int32 × St)
  | 0, _, _, _ => none
  | n + 1, x2, x3, S =>
    if (3 : Int32) ≤ x3 then
      bz x2 S
    else
      if x2 = 0 then
        m_X6_isSameAs_L30 i j n (0 : Int32) (x3 + (1 : Int32)) S
      else
        if inb x3 3 = true then
        if inb x3 3 = true then
        if (S (12 + i) x3.toNatClampNeg) = (S (12 + j) x3.toNatClampNeg) then
          m_X6_isSameAs_L30 i j n (1 : Int32) (x3 + (1 : Int32)) S
        else
          m_X6_isSameAs_L30 i j n (0 : Int32) (x3 + (1 : Int32)) S
        else none
        else none
def m_X6_isSameAs (i : Nat) (j : Nat)  (S : St) : Option (Int32 × St) :=
  if (S 20 (17 + 2 * i)) = (S 20 (17 + 2 * j)) then
    if (S 20 (18 + 2 * i)) = (S 20 (18 + 2 * j)) then
      m_X6_isSameAs_L30 i j 10000 (1 : Int32) (0 : Int32) S
    else
      m_X6_isSameAs_L30 i j 10000 (0 : Int32) (0 : Int32) S
  else
    m_X6_isSameAs_L30 i j 10000 (0 : Int32) (0 : Int32) S

abbrev rm_X3_writeAdvance : Room := { frames := 1, cells := 0, slots := 0, locals := 21 }
def m_X3_writeAdvance (x1 : Int32) (S : St) : Option (Int32 × St) :=
  if (63 : Int32) < x1 then
    (m_X7_append (2 : Int32) S).bind fun r1 =>
    (m_X7_append x1 r1.2).bind fun r2 =>
    some (0, r2.2)
  else
    (m_X7_append ((64 : Int32) + x1) S).bind fun r3 =>
    some (0, r3.2)

abbrev rm_X3_writeBase : Room := { frames := 1, cells := 0, slots := 0, locals := 21 }
def m_X3_writeBase_L95 (x1 : Int32) (x2 : Int32) (S : St) : Option (Int32 × St) :=
  if x1 = 0 then
    if x2 = 0 then
      some (0, S)
    else
      (m_X7_append (S 20 20) S).bind fun r6 =>
      some (0, r6.2)
  else
    (m_X7_append (S 20 19) S).bind fun r7 =>
    if x2 = 0 then
      some (0, r7.2)
    else
      (m_X7_append (r7.2 20 20) r7.2).bind fun r8 =>
      some (0, r8.2)
def m_X3_writeBase_L45 (x1 : Int32) (z0 : Int32) (S : St) : Option (Int32 × St) :=
  if x1 = 0 then
    if x1 = 0 then
      if z0 = 0 then
        m_X3_writeBase_L95 x1 z0 S
      else
        (m_X7_append (14 : Int32) S).bind fun r1 =>
        m_X3_writeBase_L95 x1 z0 r1.2
    else
      (m_X7_append (13 : Int32) S).bind fun r2 =>
      m_X3_writeBase_L95 x1 z0 r2.2
  else
    if z0 = 0 then
      if x1 = 0 then
        if z0 = 0 then
          m_X3_writeBase_L95 x1 z0 S
        else
          (m_X7_append (14 : Int32) S).bind fun r3 =>
          m_X3_writeBase_L95 x1 z0 r3.2
      else
        (m_X7_append (13 : Int32) S).bind fun r4 =>
        m_X3_writeBase_L95 x1 z0 r4.2
    else
      (m_X7_append (12 : Int32) S).bind fun r5 =>
      m_X3_writeBase_L95 x1 z0 r5.2
def m_X3_writeBase  (S : St) : Option (Int32 × St) :=
  if (S 20 19) = (S 20 17) then
    if (S 20 20) = (S 20 18) then
      m_X3_writeBase_L45 (0 : Int32) (0 : Int32) S
    else
      m_X3_writeBase_L45 (0 : Int32) (1 : Int32) S
  else
    if (S 20 20) = (S 20 18) then
      m_X3_writeBase_L45 (1 : Int32) (0 : Int32) S
    else
      m_X3_writeBase_L45 (1 : Int32) (1 : Int32) S

abbrev rm_X3_writeSaved : Room := { frames := 1, cells := 0, slots := 0, locals := 21 }
def m_X3_writeSaved_L2 : Nat → Int32 → St → Option (Int32 × St)
  | 0, _, _ => none
  | n + 1, x1, S =>
    if (3 : Int32) ≤ x1 then
      some (0, S)
    else
      if inb x1 3 = true then
      if inb x1 3 = true then
      if (S 13 x1.toNatClampNeg) = (S 12 x1.toNatClampNeg) then
        m_X3_writeSaved_L2 n (x1 + (1 : Int32)) S
      else
        if (S 13 x1.toNatClampNeg) = 0 then
          (m_X7_append ((192 : Int32) + x1) S).bind fun r3 =>
          if (S 13 x1.toNatClampNeg) = 0 then
            m_X3_writeSaved_L2 n (x1 + (1 : Int32)) r3.2
          else
            (m_X7_append (S 13 x1.toNatClampNeg) r3.2).bind fun r4 =>
            m_X3_writeSaved_L2 n (x1 + (1 : Int32)) r4.2
        else
          (m_X7_append ((128 : Int32) + x1) S).bind fun r1 =>
          if (S 13 x1.toNatClampNeg) = 0 then
            m_X3_writeSaved_L2 n (x1 + (1 : Int32)) r1.2
          else
            (m_X7_append (S 13 x1.toNatClampNeg) r1.2).bind fun r2 =>
            m_X3_writeSaved_L2 n (x1 + (1 : Int32)) r2.2
      else none
      else none
def m_X3_writeSaved  (S : St) : Option (Int32 × St) :=
  m_X3_writeSaved_L2 10000 (0 : Int32) S

abbrev rm_X3_writeProgram : Room := { frames := 2, cells := 0, slots := 0, locals := 46 }
def m_X3_writeProgram_L12 : Nat → Int32 → Int32 → Int32 → St → Option (Int32 × St)
  | 0, _, _, _, _ => none
  | n + 1, x2, x3, x4, S =>
    if x2 ≤ x4 then
      some (0, S)
    else
      (m_X1_fillRow x4 S).bind fun r2 =>
      if r2.1 = 0 then
        m_X3_writeProgram_L12 n x2 x3 (x4 + (1 : Int32)) r2.2
      else
        (m_X6_isSameAs 1 0 r2.2).bind fun r3 =>
        if r3.1 = 0 then
          (m_X3_writeAdvance (x4 - x3) r3.2).bind fun r4 =>
          (m_X3_writeBase  r4.2).bind fun r5 =>
          (m_X3_writeSaved  r5.2).bind fun r6 =>
          (m_X6_copyFrom 0 1 r6.2).bind fun r7 =>
          m_X3_writeProgram_L12 n x2 x4 (x4 + (1 : Int32)) r7.2
        else
          m_X3_writeProgram_L12 n x2 x3 (x4 + (1 : Int32)) r3.2
def m_X3_writeProgram (x1 : Int32) (x2 : Int32) (S : St) : Option (Int32 × St) :=
  (m_X6_setToFirst 0 S).bind fun r1 =>
  m_X3_writeProgram_L12 10000 x2 x1 x1 r1.2

abbrev rm_X7_change : Room := { frames := 0, cells := 0, slots := 0, locals := 0 }
def m_X7_change (x1 : Int32) (x2 : Int32) (S : St) : Option (Int32 × St) :=
  if x1 < 0 then
    bz (0 : Int32) S
  else
    if (S 20 6) ≤ x1 then
      bz (0 : Int32) S
    else
      if x2 < 0 then
        bz (0 : Int32) S
      else
        if x2 ≤ (255 : Int32) then
          if inb x1 1076 = true then
          bz (1 : Int32) (st S 7 x1.toNatClampNeg x2)
          else none
        else
          bz (0 : Int32) S

abbrev rm_X3_writeFunction : Room := { frames := 3, cells := 0, slots := 0, locals := 70 }
def m_X3_writeFunction (x1 : Int32) (x2 : Int32) (S : St) : Option (Int32 × St) :=
  (m_X7_append (0 : Int32) S).bind fun r1 =>
  (m_X7_append (0 : Int32) r1.2).bind fun r2 =>
  (m_X7_append x1 r2.2).bind fun r3 =>
  (m_X7_append (x2 - x1) r3.2).bind fun r4 =>
  (m_X3_writeProgram x1 x2 r4.2).bind fun r5 =>
  (m_X7_change (S 20 6) ((((r5.2 20 6) - (S 20 6)) - (2 : Int32)) >>> ((8 : Int32) &&& 31)) r5.2).bind fun r6 =>
  (m_X7_change ((S 20 6) + (1 : Int32)) ((((r5.2 20 6) - (S 20 6)) - (2 : Int32)) &&& (255 : Int32)) r6.2).bind fun r7 =>
  some (0, r7.2)

abbrev rm_X3_packAll : Room := { frames := 5, cells := 0, slots := 0, locals := 120 }
def m_X3_packAll_L61 : Nat → Int32 → St → Option (Int32 × St)
  | 0, _, _ => none
  | n + 1, x1, S =>
    if (S 20 1) ≤ x1 then
      some ((S 20 6), S)
    else
      if inb x1 5 = true then
      if inb x1 5 = true then
      (m_X3_writeFunction (S 1 x1.toNatClampNeg) (S 2 x1.toNatClampNeg) S).bind fun r3 =>
      m_X3_packAll_L61 n (x1 + (1 : Int32)) r3.2
      else none
      else none
def m_X3_packAll_L2 : Nat → Int32 → St → Option (Int32 × St)
  | 0, _, _ => none
  | n + 1, x1, S =>
    if (S 20 1) ≤ x1 then
      (m_X7_empty  S).bind fun r1 =>
      m_X3_packAll_L61 10000 (0 : Int32) r1.2
    else
      if inb x1 5 = true then
      if inb x1 5 = true then
      (m_X1_findOut (S 1 x1.toNatClampNeg) (S 2 x1.toNatClampNeg) S).bind fun r2 =>
      if r2.1 = 0 then
        m_X3_packAll_L2 n (x1 + (1 : Int32)) r2.2
      else
        some ((-r2.1), r2.2)
      else none
      else none
def m_X3_packAll  (S : St) : Option (Int32 × St) :=
  m_X3_packAll_L2 10000 (0 : Int32) S

abbrev rm_X4_append : Room := { frames := 0, cells := 0, slots := 0, locals := 0 }
def m_X4_append_L29 : Nat → Int64 → Int32 → St → Option (Int32 × St)
  | 0, _, _, _ => none
  | n + 1, x1, x4, S =>
    if x4 < 0 then
      some ((S 20 0), S)
    else
      if inb (S 20 0) 96 = true then
      m_X4_append_L29 n x1 (x4 + (-1 : Int32)) (st (st S 0 (S 20 0).toNatClampNeg ((((x1.toUInt64 >>> (((8 : Int32) * x4).toInt64.toUInt64 &&& Int64.toUInt64 63)).toInt64).toInt32) &&& (255 : Int32))) 20 0 (((st S 0 (S 20 0).toNatClampNeg ((((x1.toUInt64 >>> (((8 : Int32) * x4).toInt64.toUInt64 &&& Int64.toUInt64 63)).toInt64).toInt32) &&& (255 : Int32))) 20 0) + (1 : Int32)))
      else none
def m_X4_append (x1 : Int64) (x3 : Int32) (S : St) : Option (Int32 × St) :=
  if x3 < (1 : Int32) then
    some ((-1 : Int32), S)
  else
    if (8 : Int32) < x3 then
      some ((-1 : Int32), S)
    else
      if ((S 20 0) + x3) ≤ (96 : Int32) then
        m_X4_append_L29 10000 x1 (x3 - (1 : Int32)) S
      else
        some ((-1 : Int32), S)

abbrev rm_X4_insertFunction : Room := { frames := 0, cells := 0, slots := 0, locals := 0 }
def m_X4_insertFunction_L55 (x1 : Int32) (x2 : Int32) (x3 : Int32) (S : St) : Option (Int32 × St) :=
  if inb x3 5 = true then
  if inb x3 5 = true then
  some (0, (st (st (st S 1 x3.toNatClampNeg x1) 2 x3.toNatClampNeg x2) 20 1 (((st (st S 1 x3.toNatClampNeg x1) 2 x3.toNatClampNeg x2) 20 1) + (1 : Int32))))
  else none
  else none
def m_X4_insertFunction_L5 : Nat → Int32 → Int32 → Int32 → St → Option (Int32 × St)
  | 0, _, _, _, _ => none
  | n + 1, x1, x2, x3, S =>
    if x3 ≤ 0 then
      m_X4_insertFunction_L55 x1 x2 x3 S
    else
      if inb (x3 - (1 : Int32)) 5 = true then
      if (S 1 (x3 - (1 : Int32)).toNatClampNeg) ≤ x1 then
        m_X4_insertFunction_L55 x1 x2 x3 S
      else
        if inb (x3 - (1 : Int32)) 5 = true then
        if inb x3 5 = true then
        if inb (x3 - (1 : Int32)) 5 = true then
        if inb x3 5 = true then
        m_X4_insertFunction_L5 n x1 x2 (x3 + (-1 : Int32)) (st (st S 1 x3.toNatClampNeg (S 1 (x3 - (1 : Int32)).toNatClampNeg)) 2 x3.toNatClampNeg ((st S 1 x3.toNatClampNeg (S 1 (x3 - (1 : Int32)).toNatClampNeg)) 2 (x3 - (1 : Int32)).toNatClampNeg))
        else none
        else none
        else none
        else none
      else none
def m_X4_insertFunction (x1 : Int32) (x2 : Int32) (S : St) : Option (Int32 × St) :=
  m_X4_insertFunction_L5 10000 x1 x2 (S 20 1) S

abbrev rm_X4_addFunction : Room := { frames := 1, cells := 0, slots := 0, locals := 23 }
def m_X4_addFunction_L29 : Nat → Int32 → Int32 → Int32 → St → Option (Int32 × St)
  | 0, _, _, _, _ => none
  | n + 1, x1, x2, x3, S =>
    if (S 20 1) ≤ x3 then
      (m_X4_insertFunction x1 x2 S).bind fun r1 =>
      some ((r1.2 20 1), r1.2)
    else
      if inb x3 5 = true then
      if (S 2 x3.toNatClampNeg) ≤ x1 then
        m_X4_addFunction_L29 n x1 x2 (x3 + (1 : Int32)) S
      else
        if inb x3 5 = true then
        if x2 ≤ (S 1 x3.toNatClampNeg) then
          m_X4_addFunction_L29 n x1 x2 (x3 + (1 : Int32)) S
        else
          some ((-1 : Int32), S)
        else none
      else none
def m_X4_addFunction (x1 : Int32) (x2 : Int32) (S : St) : Option (Int32 × St) :=
  if (5 : Int32) ≤ (S 20 1) then
    some ((-1 : Int32), S)
  else
    if x1 < 0 then
      some ((-1 : Int32), S)
    else
      if x2 ≤ x1 then
        some ((-1 : Int32), S)
      else
        if x2 ≤ (S 20 0) then
          m_X4_addFunction_L29 10000 x1 x2 (0 : Int32) S
        else
          some ((-1 : Int32), S)

abbrev rm_X4_empty : Room := { frames := 0, cells := 0, slots := 0, locals := 0 }
def m_X4_empty  (S : St) : Option (Int32 × St) :=
  some ((S 20 1), (st (st S 20 0 (0 : Int32)) 20 1 (0 : Int32)))

abbrev rm_X6_part : Room := { frames := 0, cells := 0, slots := 0, locals := 0 }
def m_X6_part (i : Nat) (x1 : Int32) (S : St) : Option (Int32 × St) :=
  if x1 < 0 then
    some ((-1 : Int32), S)
  else
    if x1 < (5 : Int32) then
      if x1 = 0 then
        some ((S 20 (17 + 2 * i)), S)
      else
        if x1 = (1 : Int32) then
          some ((S 20 (18 + 2 * i)), S)
        else
          if inb (x1 - (2 : Int32)) 3 = true then
          some ((S (12 + i) (x1 - (2 : Int32)).toNatClampNeg), S)
          else none
    else
      some ((-1 : Int32), S)

abbrev rm_X8_code : Room := { frames := 1, cells := 0, slots := 0, locals := 24 }
def m_X8_code (x1 : Int64) (x3 : Int32) (S : St) : Option (Int32 × St) :=
  (m_X4_append x1 x3 S).bind fun r1 =>
  if r1.1 = (-1 : Int32) then
    some (r1.1, r1.2)
  else
    (m_X2_end  r1.2).bind fun r2 =>
    some (r1.1, r2.2)

abbrev rm_X8_function : Room := { frames := 2, cells := 0, slots := 0, locals := 46 }
def m_X8_function (x1 : Int32) (x2 : Int32) (S : St) : Option (Int32 × St) :=
  (m_X4_addFunction x1 x2 S).bind fun r1 =>
  if r1.1 = (-1 : Int32) then
    some (r1.1, r1.2)
  else
    (m_X2_end  r1.2).bind fun r2 =>
    some (r1.1, r2.2)

abbrev rm_X8_clear : Room := { frames := 1, cells := 0, slots := 0, locals := 21 }
def m_X8_clear  (S : St) : Option (Int32 × St) :=
  (m_X2_end  S).bind fun r1 =>
  (m_X4_empty  r1.2).bind fun r2 =>
  some (r2.1, r2.2)

abbrev rm_X8_pack : Room := { frames := 6, cells := 0, slots := 0, locals := 142 }
def m_X8_pack  (S : St) : Option (Int32 × St) :=
  (m_X3_packAll  S).bind fun r1 =>
  some (r1.1, r1.2)

abbrev rm_X8_section : Room := { frames := 1, cells := 0, slots := 0, locals := 21 }
def m_X8_section (x1 : Int32) (S : St) : Option (Int32 × St) :=
  (m_X7_byteAt x1 S).bind fun r1 =>
  some (r1.1, r1.2)

abbrev rm_X8_poke : Room := { frames := 1, cells := 0, slots := 0, locals := 22 }
def m_X8_poke (x1 : Int32) (x2 : Int32) (S : St) : Option (Int32 × St) :=
  (m_X7_change x1 x2 S).bind fun r1 =>
  bz r1.1 r1.2

abbrev rm_X8_begin : Room := { frames := 1, cells := 0, slots := 0, locals := 25 }
def m_X8_begin (x1 : Int32) (x2 : Int32) (x3 : Int32) (x4 : Int32) (S : St) : Option (Int32 × St) :=
  (m_X2_start x1 x2 x3 x4 S).bind fun r1 =>
  bz r1.1 r1.2

abbrev rm_X8_machine : Room := { frames := 1, cells := 0, slots := 0, locals := 21 }
def m_X8_machine (x1 : Int32) (S : St) : Option (Int32 × St) :=
  (m_X2_part x1 S).bind fun r1 =>
  some (r1.1, r1.2)

abbrev rm_X8_call : Room := { frames := 1, cells := 0, slots := 0, locals := 21 }
def m_X8_call (x1 : Int32) (S : St) : Option (Int32 × St) :=
  (m_X2_returnOf x1 S).bind fun r1 =>
  some (r1.1, r1.2)

abbrev rm_X8_unwind : Room := { frames := 6, cells := 0, slots := 0, locals := 136 }
def m_X8_unwind  (S : St) : Option (Int32 × St) :=
  (m_X0_findFrames  S).bind fun r1 =>
  some (r1.1, r1.2)

abbrev rm_X8_frame : Room := { frames := 1, cells := 0, slots := 0, locals := 22 }
def m_X8_frame (x1 : Int32) (x2 : Int32) (S : St) : Option (Int32 × St) :=
  (m_X0_part x1 x2 S).bind fun r1 =>
  some (r1.1, r1.2)

abbrev rm_X9_thrown : Room := { frames := 0, cells := 0, slots := 0, locals := 0 }
def m_X9_thrown  (S : St) : Option (Int32 × St) :=
  some ((S 30 0), S)

abbrev rm_X9_over : Room := { frames := 0, cells := 0, slots := 0, locals := 0 }
def m_X9_over  (S : St) : Option (Int32 × St) :=
  if (S 30 17) = 0 then
    some (0, (st (st S 30 18 (S 30 18)) 30 17 (0 : Int32)))
  else
    some (0, (st (st S 30 18 (255 : Int32)) 30 17 (0 : Int32)))

abbrev rm_X9_code : Room := { frames := 1, cells := 0, slots := 0, locals := 20 }
def m_X9_code_L38 : Nat → Int64 → Int32 → St → Option (Int32 × St)
  | 0, _, _, _ => none
  | n + 1, x1, x4, S =>
    if x4 < 0 then
      some ((S 30 2), S)
    else
      if inb (S 30 2) 96 = true then
      m_X9_code_L38 n x1 (x4 + (-1 : Int32)) (st (st S 1 (S 30 2).toNatClampNeg (((x1 >>> (((8 : Int32) * x4).toInt64 &&& 63)).toInt32) &&& (255 : Int32))) 30 2 (((st S 1 (S 30 2).toNatClampNeg (((x1 >>> (((8 : Int32) * x4).toInt64 &&& 63)).toInt32) &&& (255 : Int32))) 30 2) + (1 : Int32)))
      else none
def m_X9_code (x1 : Int64) (x3 : Int32) (S : St) : Option (Int32 × St) :=
  if x3 < (1 : Int32) then
    some ((-1 : Int32), (st S 30 0 (0 : Int32)))
  else
    if (8 : Int32) < x3 then
      some ((-1 : Int32), (st S 30 0 (0 : Int32)))
    else
      if (((st S 30 0 (0 : Int32)) 30 2) + x3) ≤ (96 : Int32) then
        (m_X9_over  (st S 30 0 (0 : Int32))).bind fun r1 =>
        m_X9_code_L38 10000 x1 (x3 - (1 : Int32)) r1.2
      else
        some ((-1 : Int32), (st S 30 0 (0 : Int32)))

abbrev rm_X9_function : Room := { frames := 1, cells := 0, slots := 0, locals := 20 }
def m_X9_function_L129 (x1 : Int32) (x2 : Int32) (x3 : Int32) (S : St) : Option (Int32 × St) :=
  if inb x3 5 = true then
  if inb x3 5 = true then
  some (((st (st (st S 4 x3.toNatClampNeg x1) 5 x3.toNatClampNeg x2) 30 3 (((st (st S 4 x3.toNatClampNeg x1) 5 x3.toNatClampNeg x2) 30 3) + (1 : Int32))) 30 3), (st (st (st S 4 x3.toNatClampNeg x1) 5 x3.toNatClampNeg x2) 30 3 (((st (st S 4 x3.toNatClampNeg x1) 5 x3.toNatClampNeg x2) 30 3) + (1 : Int32))))
  else none
  else none
def m_X9_function_L79 : Nat → Int32 → Int32 → Int32 → St → Option (Int32 × St)
  | 0, _, _, _, _ => none
  | n + 1, x1, x2, x3, S =>
    if x3 ≤ 0 then
      m_X9_function_L129 x1 x2 x3 S
    else
      if inb (x3 - (1 : Int32)) 5 = true then
      if (S 4 (x3 - (1 : Int32)).toNatClampNeg) ≤ x1 then
        m_X9_function_L129 x1 x2 x3 S
      else
        if inb (x3 - (1 : Int32)) 5 = true then
        if inb x3 5 = true then
        if inb (x3 - (1 : Int32)) 5 = true then
        if inb x3 5 = true then
        m_X9_function_L79 n x1 x2 (x3 + (-1 : Int32)) (st (st S 4 x3.toNatClampNeg (S 4 (x3 - (1 : Int32)).toNatClampNeg)) 5 x3.toNatClampNeg ((st S 4 x3.toNatClampNeg (S 4 (x3 - (1 : Int32)).toNatClampNeg)) 5 (x3 - (1 : Int32)).toNatClampNeg))
        else none
        else none
        else none
        else none
      else none
def m_X9_function_L34 : Nat → Int32 → Int32 → Int32 → St → Option (Int32 × St)
  | 0, _, _, _, _ => none
  | n + 1, x1, x2, x3, S =>
    if (S 30 3) ≤ x3 then
      (m_X9_over  S).bind fun r1 =>
      m_X9_function_L79 10000 x1 x2 (r1.2 30 3) r1.2
    else
      if inb x3 5 = true then
      if (S 5 x3.toNatClampNeg) ≤ x1 then
        m_X9_function_L34 n x1 x2 (x3 + (1 : Int32)) S
      else
        if inb x3 5 = true then
        if x2 ≤ (S 4 x3.toNatClampNeg) then
          m_X9_function_L34 n x1 x2 (x3 + (1 : Int32)) S
        else
          some ((-1 : Int32), S)
        else none
      else none
def m_X9_function (x1 : Int32) (x2 : Int32) (S : St) : Option (Int32 × St) :=
  if ((st S 30 0 (0 : Int32)) 30 3) = (5 : Int32) then
    some ((-1 : Int32), (st S 30 0 (0 : Int32)))
  else
    if x1 < 0 then
      some ((-1 : Int32), (st S 30 0 (0 : Int32)))
    else
      if ((st S 30 0 (0 : Int32)) 30 2) < x2 then
        some ((-1 : Int32), (st S 30 0 (0 : Int32)))
      else
        if x1 < x2 then
          m_X9_function_L34 10000 x1 x2 (0 : Int32) (st S 30 0 (0 : Int32))
        else
          some ((-1 : Int32), (st S 30 0 (0 : Int32)))

abbrev rm_X9_clear : Room := { frames := 1, cells := 0, slots := 0, locals := 20 }
def m_X9_clear  (S : St) : Option (Int32 × St) :=
  (m_X9_over  (st S 30 0 (0 : Int32))).bind fun r1 =>
  some (((st S 30 0 (0 : Int32)) 30 3), (st (st r1.2 30 3 (0 : Int32)) 30 2 (0 : Int32)))

abbrev rm_X9_lengthOf : Room := { frames := 0, cells := 0, slots := 0, locals := 0 }
def m_X9_lengthOf (x0 : Int32) (S : St) : Option (Int32 × St) :=
  if x0 = (0 : Int32) then
    some ((1 : Int32), S)
  else
    if x0 = (1 : Int32) then
      if (16 : Int32) ≤ x0 then
        some ((0 : Int32), S)
      else
        some ((2 : Int32), S)
    else
      if x0 = (2 : Int32) then
        if (16 : Int32) ≤ x0 then
          some ((0 : Int32), S)
        else
          some ((2 : Int32), S)
      else
        if x0 = (3 : Int32) then
          if (16 : Int32) ≤ x0 then
            some ((0 : Int32), S)
          else
            some ((2 : Int32), S)
        else
          if x0 = (4 : Int32) then
            if (16 : Int32) ≤ x0 then
              some ((0 : Int32), S)
            else
              some ((2 : Int32), S)
          else
            if x0 = (5 : Int32) then
              some ((1 : Int32), S)
            else
              if x0 = (6 : Int32) then
                some ((1 : Int32), S)
              else
                if x0 = (7 : Int32) then
                  if (16 : Int32) ≤ x0 then
                    some ((0 : Int32), S)
                  else
                    some ((2 : Int32), S)
                else
                  if x0 = (8 : Int32) then
                    some ((1 : Int32), S)
                  else
                    if x0 = (9 : Int32) then
                      if (16 : Int32) ≤ x0 then
                        some ((0 : Int32), S)
                      else
                        some ((2 : Int32), S)
                    else
                      if x0 = (10 : Int32) then
                        if (16 : Int32) ≤ x0 then
                          some ((0 : Int32), S)
                        else
                          some ((2 : Int32), S)
                      else
                        if x0 = (11 : Int32) then
                          some ((3 : Int32), S)
                        else
                          if x0 = (12 : Int32) then
                            if (16 : Int32) ≤ x0 then
                              some ((0 : Int32), S)
                            else
                              some ((2 : Int32), S)
                          else
                            if x0 = (13 : Int32) then
                              some ((1 : Int32), S)
                            else
                              if x0 = (14 : Int32) then
                                some ((3 : Int32), S)
                              else
                                if x0 = (15 : Int32) then
                                  some ((3 : Int32), S)
                                else
                                  if (16 : Int32) ≤ x0 then
                                    some ((0 : Int32), S)
                                  else
                                    some ((2 : Int32), S)

abbrev rm_X9_hasRegister : Room := { frames := 0, cells := 0, slots := 0, locals := 0 }
def m_X9_hasRegister (x0 : Int32) (S : St) : Option (Int32 × St) :=
  if x0 = (1 : Int32) then
    bz (1 : Int32) S
  else
    if x0 = (2 : Int32) then
      bz (1 : Int32) S
    else
      if x0 = (11 : Int32) then
        bz (1 : Int32) S
      else
        if x0 = (14 : Int32) then
          bz (1 : Int32) S
        else
          if x0 = (15 : Int32) then
            bz (1 : Int32) S
          else
            bz (0 : Int32) S

abbrev rm_X9_isWhole : Room := { frames := 1, cells := 0, slots := 0, locals := 20 }
def m_X9_isWhole (x1 : Int32) (x2 : Int32) (S : St) : Option (Int32 × St) :=
  if x1 < 0 then
    bz (0 : Int32) S
  else
    if x1 < x2 then
      if inb x1 96 = true then
      (m_X9_lengthOf (S 1 x1.toNatClampNeg) S).bind fun r1 =>
      if r1.1 ≤ 0 then
        bz (0 : Int32) r1.2
      else
        if x2 < (x1 + r1.1) then
          bz (0 : Int32) r1.2
        else
          if inb x1 96 = true then
          (m_X9_hasRegister (r1.2 1 x1.toNatClampNeg) r1.2).bind fun r2 =>
          if r2.1 = 0 then
            bz (1 : Int32) r2.2
          else
            if inb (x1 + (1 : Int32)) 96 = true then
            if (3 : Int32) ≤ (r2.2 1 (x1 + (1 : Int32)).toNatClampNeg) then
              bz (0 : Int32) r2.2
            else
              bz (1 : Int32) r2.2
            else none
          else none
      else none
    else
      bz (0 : Int32) S

abbrev rm_X9_isFirst : Room := { frames := 0, cells := 0, slots := 0, locals := 0 }
def m_X9_isFirst_L4 : Nat → Int32 → Int32 → Int32 → St → Option (Int32 × St)
  | 0, _, _, _, _ => none
  | n + 1, x1, x2, x3, S =>
    if (S 30 3) ≤ x3 then
      bz x2 S
    else
      if x2 = 0 then
        if inb x3 5 = true then
        if (S 4 x3.toNatClampNeg) = x1 then
          m_X9_isFirst_L4 n x1 (1 : Int32) (x3 + (1 : Int32)) S
        else
          m_X9_isFirst_L4 n x1 (0 : Int32) (x3 + (1 : Int32)) S
        else none
      else
        m_X9_isFirst_L4 n x1 (1 : Int32) (x3 + (1 : Int32)) S
def m_X9_isFirst (x1 : Int32) (S : St) : Option (Int32 × St) :=
  m_X9_isFirst_L4 10000 x1 (0 : Int32) (0 : Int32) S

abbrev rm_X9_isClean : Room := { frames := 0, cells := 0, slots := 0, locals := 0 }
def m_X9_isClean  (S : St) : Option (Int32 × St) :=
  if inb (0 : Int32) 5 = true then
  if (S 9 (0 : Int32).toNatClampNeg) = (1 : Int32) then
    if inb (2 : Int32) 5 = true then
    if (S 9 (2 : Int32).toNatClampNeg) = 0 then
      if inb (3 : Int32) 5 = true then
      if (S 9 (3 : Int32).toNatClampNeg) = 0 then
        if inb (4 : Int32) 5 = true then
        if (S 9 (4 : Int32).toNatClampNeg) = 0 then
          bz (1 : Int32) S
        else
          bz (0 : Int32) S
        else none
      else
        bz (0 : Int32) S
      else none
    else
      bz (0 : Int32) S
    else none
  else
    bz (0 : Int32) S
  else none

abbrev rm_X9_spoil : Room := { frames := 0, cells := 0, slots := 0, locals := 0 }
def m_X9_spoil (x1 : Int32) (S : St) : Option (Int32 × St) :=
  if inb ((2 : Int32) + x1) 5 = true then
  if (S 9 ((2 : Int32) + x1).toNatClampNeg) = 0 then
    some ((4 : Int32), S)
  else
    if x1 = 0 then
      if inb (1 : Int32) 5 = true then
      some ((0 : Int32), (st S 9 (1 : Int32).toNatClampNeg (0 : Int32)))
      else none
    else
      if inb (1 : Int32) 5 = true then
      if inb (1 : Int32) 5 = true then
      some ((0 : Int32), (st S 9 (1 : Int32).toNatClampNeg (S 9 (1 : Int32).toNatClampNeg)))
      else none
      else none
  else none

abbrev rm_X9_give : Room := { frames := 1, cells := 0, slots := 0, locals := 21 }
def m_X9_give (x1 : Int32) (x2 : Int32) (S : St) : Option (Int32 × St) :=
  if inb ((2 : Int32) + x1) 5 = true then
  if (S 9 ((2 : Int32) + x1).toNatClampNeg) = x2 then
    if inb ((2 : Int32) + x1) 5 = true then
    if x1 = 0 then
      if inb (1 : Int32) 5 = true then
      some ((0 : Int32), (st (st S 9 ((2 : Int32) + x1).toNatClampNeg (0 : Int32)) 9 (1 : Int32).toNatClampNeg (0 : Int32)))
      else none
    else
      if inb (1 : Int32) 5 = true then
      if inb (1 : Int32) 5 = true then
      some ((0 : Int32), (st (st S 9 ((2 : Int32) + x1).toNatClampNeg (0 : Int32)) 9 (1 : Int32).toNatClampNeg ((st S 9 ((2 : Int32) + x1).toNatClampNeg (0 : Int32)) 9 (1 : Int32).toNatClampNeg)))
      else none
      else none
    else none
  else
    (m_X9_spoil x1 S).bind fun r1 =>
    some (r1.1, r1.2)
  else none

abbrev rm_X9_lose : Room := { frames := 0, cells := 0, slots := 0, locals := 0 }
def m_X9_lose (x1 : Int32) (S : St) : Option (Int32 × St) :=
  if inb (0 : Int32) 5 = true then
  if inb (0 : Int32) 5 = true then
  if inb (0 : Int32) 5 = true then
  if ((st S 9 (0 : Int32).toNatClampNeg ((S 9 (0 : Int32).toNatClampNeg) - x1)) 9 (0 : Int32).toNatClampNeg) < (1 : Int32) then
    some ((5 : Int32), (st S 9 (0 : Int32).toNatClampNeg ((S 9 (0 : Int32).toNatClampNeg) - x1)))
  else
    if inb (2 : Int32) 5 = true then
    if inb (0 : Int32) 5 = true then
    if ((st S 9 (0 : Int32).toNatClampNeg ((S 9 (0 : Int32).toNatClampNeg) - x1)) 9 (0 : Int32).toNatClampNeg) < ((st S 9 (0 : Int32).toNatClampNeg ((S 9 (0 : Int32).toNatClampNeg) - x1)) 9 (2 : Int32).toNatClampNeg) then
      some ((5 : Int32), (st S 9 (0 : Int32).toNatClampNeg ((S 9 (0 : Int32).toNatClampNeg) - x1)))
    else
      if inb (3 : Int32) 5 = true then
      if inb (0 : Int32) 5 = true then
      if ((st S 9 (0 : Int32).toNatClampNeg ((S 9 (0 : Int32).toNatClampNeg) - x1)) 9 (0 : Int32).toNatClampNeg) < ((st S 9 (0 : Int32).toNatClampNeg ((S 9 (0 : Int32).toNatClampNeg) - x1)) 9 (3 : Int32).toNatClampNeg) then
        some ((5 : Int32), (st S 9 (0 : Int32).toNatClampNeg ((S 9 (0 : Int32).toNatClampNeg) - x1)))
      else
        if inb (4 : Int32) 5 = true then
        if inb (0 : Int32) 5 = true then
        if ((st S 9 (0 : Int32).toNatClampNeg ((S 9 (0 : Int32).toNatClampNeg) - x1)) 9 (4 : Int32).toNatClampNeg) ≤ ((st S 9 (0 : Int32).toNatClampNeg ((S 9 (0 : Int32).toNatClampNeg) - x1)) 9 (0 : Int32).toNatClampNeg) then
          some ((0 : Int32), (st S 9 (0 : Int32).toNatClampNeg ((S 9 (0 : Int32).toNatClampNeg) - x1)))
        else
          some ((5 : Int32), (st S 9 (0 : Int32).toNatClampNeg ((S 9 (0 : Int32).toNatClampNeg) - x1)))
        else none
        else none
      else none
      else none
    else none
    else none
  else none
  else none
  else none

abbrev rm_X9_save : Room := { frames := 0, cells := 0, slots := 0, locals := 0 }
def m_X9_save (x1 : Int32) (x2 : Int32) (S : St) : Option (Int32 × St) :=
  if inb ((2 : Int32) + x1) 5 = true then
  if (S 9 ((2 : Int32) + x1).toNatClampNeg) = 0 then
    if inb ((2 : Int32) + x1) 5 = true then
    some (0, (st S 9 ((2 : Int32) + x1).toNatClampNeg x2))
    else none
  else
    if inb ((2 : Int32) + x1) 5 = true then
    if inb ((2 : Int32) + x1) 5 = true then
    some (0, (st S 9 ((2 : Int32) + x1).toNatClampNeg (S 9 ((2 : Int32) + x1).toNatClampNeg)))
    else none
    else none
  else none

abbrev rm_X9_raise : Room := { frames := 0, cells := 0, slots := 0, locals := 0 }
def m_X9_raise (x1 : Int32) (S : St) : Option (Int32 × St) :=
  if inb (0 : Int32) 5 = true then
  if inb (0 : Int32) 5 = true then
  if inb (0 : Int32) 5 = true then
  if ((st S 9 (0 : Int32).toNatClampNeg ((S 9 (0 : Int32).toNatClampNeg) + x1)) 9 (0 : Int32).toNatClampNeg) ≤ (30 : Int32) then
    some ((0 : Int32), (st S 9 (0 : Int32).toNatClampNeg ((S 9 (0 : Int32).toNatClampNeg) + x1)))
  else
    some ((9 : Int32), (st S 9 (0 : Int32).toNatClampNeg ((S 9 (0 : Int32).toNatClampNeg) + x1)))
  else none
  else none
  else none

abbrev rm_X9_isTarget : Room := { frames := 0, cells := 0, slots := 0, locals := 0 }
def m_X9_isTarget (x1 : Int32) (x2 : Int32) (S : St) : Option (Int32 × St) :=
  if inb x1 5 = true then
  if x2 < (S 4 x1.toNatClampNeg) then
    bz (0 : Int32) S
  else
    if inb x1 5 = true then
    if (S 5 x1.toNatClampNeg) ≤ x2 then
      bz (0 : Int32) S
    else
      if inb x2 97 = true then
      if (S 8 x2.toNatClampNeg) = 0 then
        bz (0 : Int32) S
      else
        bz (1 : Int32) S
      else none
    else none
  else none

abbrev rm_X9_effect : Room := { frames := 2, cells := 0, slots := 0, locals := 43 }
def m_X9_effect_L49 (x1 : Int32) (x3 : Int32) (x4 : Int32) (z0 : Int32) (S : St) : Option (Int32 × St) :=
  if inb (0 : Int32) 5 = true then
  if x3 = (1 : Int32) then
    (m_X9_raise (1 : Int32) S).bind fun r4 =>
    if inb (0 : Int32) 5 = true then
    (m_X9_save x4 (r4.2 9 (0 : Int32).toNatClampNeg) r4.2).bind fun r5 =>
    some (r4.1, r5.2)
    else none
  else
    if x3 = (2 : Int32) then
      if inb (0 : Int32) 5 = true then
      if (S 9 (0 : Int32).toNatClampNeg) = (1 : Int32) then
        some ((5 : Int32), S)
      else
        if inb (0 : Int32) 5 = true then
        (m_X9_give x4 (S 9 (0 : Int32).toNatClampNeg) S).bind fun r6 =>
        if r6.1 ≤ 0 then
          (m_X9_lose (1 : Int32) r6.2).bind fun r7 =>
          some (r7.1, r7.2)
        else
          some (r6.1, r6.2)
        else none
      else none
    else
      if x3 = (3 : Int32) then
        (m_X9_raise x4 S).bind fun r8 =>
        some (r8.1, r8.2)
      else
        if x3 = (4 : Int32) then
          (m_X9_lose x4 S).bind fun r9 =>
          some (r9.1, r9.2)
        else
          if x3 = (5 : Int32) then
            (m_X9_spoil (0 : Int32) S).bind fun r10 =>
            if inb (0 : Int32) 5 = true then
            if inb (1 : Int32) 5 = true then
            some (r10.1, (st r10.2 9 (1 : Int32).toNatClampNeg (r10.2 9 (0 : Int32).toNatClampNeg)))
            else none
            else none
          else
            if x3 = (6 : Int32) then
              if inb (1 : Int32) 5 = true then
              if (S 9 (1 : Int32).toNatClampNeg) = 0 then
                some ((5 : Int32), S)
              else
                if inb (1 : Int32) 5 = true then
                if inb (0 : Int32) 5 = true then
                if (S 9 (1 : Int32).toNatClampNeg) ≤ (S 9 (0 : Int32).toNatClampNeg) then
                  if inb (0 : Int32) 5 = true then
                  if inb (1 : Int32) 5 = true then
                  (m_X9_lose ((S 9 (0 : Int32).toNatClampNeg) - (S 9 (1 : Int32).toNatClampNeg)) S).bind fun r11 =>
                  some (r11.1, r11.2)
                  else none
                  else none
                else
                  some ((5 : Int32), S)
                else none
                else none
              else none
            else
              if x3 = (7 : Int32) then
                (m_X9_isFirst x4 S).bind fun r12 =>
                if r12.1 = 0 then
                  some ((3 : Int32), r12.2)
                else
                  some ((0 : Int32), r12.2)
              else
                if x3 = (8 : Int32) then
                  (m_X9_isClean  S).bind fun r13 =>
                  if r13.1 = 0 then
                    some ((6 : Int32), r13.2)
                  else
                    some ((0 : Int32), r13.2)
                else
                  if x3 = (9 : Int32) then
                    if inb x1 5 = true then
                    if x4 < (S 4 x1.toNatClampNeg) then
                      (m_X9_isFirst x4 S).bind fun r14 =>
                      if r14.1 = 0 then
                        some ((3 : Int32), r14.2)
                      else
                        (m_X9_isClean  r14.2).bind fun r15 =>
                        if r15.1 = 0 then
                          some ((6 : Int32), r15.2)
                        else
                          some ((0 : Int32), r15.2)
                    else
                      if inb x1 5 = true then
                      if (S 5 x1.toNatClampNeg) ≤ x4 then
                        (m_X9_isFirst x4 S).bind fun r16 =>
                        if r16.1 = 0 then
                          some ((3 : Int32), r16.2)
                        else
                          (m_X9_isClean  r16.2).bind fun r17 =>
                          if r17.1 = 0 then
                            some ((6 : Int32), r17.2)
                          else
                            some ((0 : Int32), r17.2)
                      else
                        if inb x4 97 = true then
                        if (S 8 x4.toNatClampNeg) = 0 then
                          some ((3 : Int32), S)
                        else
                          some ((0 : Int32), S)
                        else none
                      else none
                    else none
                  else
                    if x3 = (10 : Int32) then
                      (m_X9_isTarget x1 x4 S).bind fun r18 =>
                      if r18.1 = 0 then
                        some ((3 : Int32), r18.2)
                      else
                        some ((0 : Int32), r18.2)
                    else
                      if x3 = (11 : Int32) then
                        (m_X9_spoil x4 S).bind fun r19 =>
                        some (r19.1, r19.2)
                      else
                        if x3 = (12 : Int32) then
                          some ((0 : Int32), S)
                        else
                          if x3 = (13 : Int32) then
                            some ((0 : Int32), S)
                          else
                            if x3 = (14 : Int32) then
                              if ((S 9 (0 : Int32).toNatClampNeg) - z0) < (2 : Int32) then
                                some ((8 : Int32), S)
                              else
                                if inb (2 : Int32) 5 = true then
                                if (S 9 (2 : Int32).toNatClampNeg) = ((S 9 (0 : Int32).toNatClampNeg) - z0) then
                                  some ((8 : Int32), S)
                                else
                                  if inb (3 : Int32) 5 = true then
                                  if (S 9 (3 : Int32).toNatClampNeg) = ((S 9 (0 : Int32).toNatClampNeg) - z0) then
                                    some ((8 : Int32), S)
                                  else
                                    if inb (4 : Int32) 5 = true then
                                    if (S 9 (4 : Int32).toNatClampNeg) = ((S 9 (0 : Int32).toNatClampNeg) - z0) then
                                      some ((8 : Int32), S)
                                    else
                                      (m_X9_save x4 ((S 9 (0 : Int32).toNatClampNeg) - z0) S).bind fun r20 =>
                                      some ((0 : Int32), r20.2)
                                    else none
                                  else none
                                else none
                            else
                              if x3 = (15 : Int32) then
                                if inb (0 : Int32) 5 = true then
                                if z0 < ((S 9 (0 : Int32).toNatClampNeg) - (1 : Int32)) then
                                  (m_X9_give x4 ((S 9 (0 : Int32).toNatClampNeg) - z0) S).bind fun r21 =>
                                  some (r21.1, r21.2)
                                else
                                  some ((8 : Int32), S)
                                else none
                              else
                                some ((0 : Int32), S)
  else none
def m_X9_effect (x1 : Int32) (x2 : Int32) (S : St) : Option (Int32 × St) :=
  if inb x2 96 = true then
  (m_X9_lengthOf (S 1 x2.toNatClampNeg) S).bind fun r1 =>
  if r1.1 ≤ (1 : Int32) then
    (m_X9_lengthOf (S 1 x2.toNatClampNeg) r1.2).bind fun r2 =>
    if r2.1 ≤ (2 : Int32) then
      m_X9_effect_L49 x1 (S 1 x2.toNatClampNeg) (0 : Int32) (0 : Int32) r2.2
    else
      if inb (x2 + (2 : Int32)) 96 = true then
      m_X9_effect_L49 x1 (S 1 x2.toNatClampNeg) (0 : Int32) (r2.2 1 (x2 + (2 : Int32)).toNatClampNeg) r2.2
      else none
  else
    if inb (x2 + (1 : Int32)) 96 = true then
    (m_X9_lengthOf (S 1 x2.toNatClampNeg) r1.2).bind fun r3 =>
    if r3.1 ≤ (2 : Int32) then
      m_X9_effect_L49 x1 (S 1 x2.toNatClampNeg) (r1.2 1 (x2 + (1 : Int32)).toNatClampNeg) (0 : Int32) r3.2
    else
      if inb (x2 + (2 : Int32)) 96 = true then
      m_X9_effect_L49 x1 (S 1 x2.toNatClampNeg) (r1.2 1 (x2 + (1 : Int32)).toNatClampNeg) (r3.2 1 (x2 + (2 : Int32)).toNatClampNeg) r3.2
      else none
    else none
  else none

abbrev rm_X9_learn : Room := { frames := 0, cells := 0, slots := 0, locals := 0 }
def m_X9_learn_L59 : Nat → Int32 → Int32 → St → Option (Int32 × St)
  | 0, _, _, _ => none
  | n + 1, x1, x3, S =>
    if (5 : Int32) ≤ x3 then
      bz (1 : Int32) S
    else
      if inb x3 5 = true then
      if inb (((5 : Int32) * x1) + x3) 485 = true then
      m_X9_learn_L59 n x1 (x3 + (1 : Int32)) (st S 6 (((5 : Int32) * x1) + x3).toNatClampNeg (S 9 x3.toNatClampNeg))
      else none
      else none
def m_X9_learn_L4 : Nat → Int32 → Int32 → Int32 → St → Option (Int32 × St)
  | 0, _, _, _, _ => none
  | n + 1, x1, x2, x3, S =>
    if (5 : Int32) ≤ x3 then
      if inb ((5 : Int32) * x1) 485 = true then
      if (S 6 ((5 : Int32) * x1).toNatClampNeg) ≤ 0 then
        m_X9_learn_L59 10000 x1 (0 : Int32) S
      else
        bz x2 S
      else none
    else
      if x2 = 0 then
        m_X9_learn_L4 n x1 (0 : Int32) (x3 + (1 : Int32)) S
      else
        if inb (((5 : Int32) * x1) + x3) 485 = true then
        if inb x3 5 = true then
        if (S 6 (((5 : Int32) * x1) + x3).toNatClampNeg) = (S 9 x3.toNatClampNeg) then
          m_X9_learn_L4 n x1 (1 : Int32) (x3 + (1 : Int32)) S
        else
          m_X9_learn_L4 n x1 (0 : Int32) (x3 + (1 : Int32)) S
        else none
        else none
def m_X9_learn (x1 : Int32) (S : St) : Option (Int32 × St) :=
  m_X9_learn_L4 10000 x1 (1 : Int32) (0 : Int32) S

abbrev rm_X9_findOut : Room := { frames := 3, cells := 0, slots := 0, locals := 70 }
def m_X9_findOut_L353 (k96 : Int32 → Int32 → St → Option (Int32 × St)) (x1 : Int32) (x8 : Int32) (z0 : Int32) (S : St) : Option (Int32 × St) :=
  if z0 = 0 then
    if inb x1 5 = true then
    k96 x1 (S 4 x1.toNatClampNeg) S
    else none
  else
    (m_X9_learn x8 S).bind fun r9 =>
    if r9.1 = 0 then
      some (((700 : Int32) + x8), r9.2)
    else
      if inb x1 5 = true then
      k96 x1 (r9.2 4 x1.toNatClampNeg) r9.2
      else none
def m_X9_findOut_L312 (k96 : Int32 → Int32 → St → Option (Int32 × St)) (x1 : Int32) (x6 : Int32) (x8 : Int32) (S : St) : Option (Int32 × St) :=
  if x6 = (10 : Int32) then
    m_X9_findOut_L353 k96 x1 x8 (1 : Int32) S
  else
    if x6 = (9 : Int32) then
      if inb x1 5 = true then
      if x8 < (S 4 x1.toNatClampNeg) then
        m_X9_findOut_L353 k96 x1 x8 (0 : Int32) S
      else
        if inb x1 5 = true then
        if (S 5 x1.toNatClampNeg) ≤ x8 then
          m_X9_findOut_L353 k96 x1 x8 (0 : Int32) S
        else
          m_X9_findOut_L353 k96 x1 x8 (1 : Int32) S
        else none
      else none
    else
      m_X9_findOut_L353 k96 x1 x8 (0 : Int32) S
def m_X9_findOut_L280 (k96 : Int32 → Int32 → St → Option (Int32 × St)) (x1 : Int32) (x6 : Int32) (x7 : Int32) (z0 : Int32) (S : St) : Option (Int32 × St) :=
  if x6 = (8 : Int32) then
    m_X9_findOut_L312 k96 x1 x6 z0 S
  else
    if x6 = (9 : Int32) then
      m_X9_findOut_L312 k96 x1 x6 z0 S
    else
      (m_X9_learn x7 S).bind fun r8 =>
      if r8.1 = 0 then
        some (((700 : Int32) + x7), r8.2)
      else
        m_X9_findOut_L312 k96 x1 x6 z0 r8.2
def m_X9_findOut_L185 (k96 : Int32 → Int32 → St → Option (Int32 × St)) : Nat → Int32 → Int32 → Int32 → St → Option (Int32 × St)
  | 0, _, _, _, _ => none
  | n + 1, x1, x4, x5, S =>
    if (5 : Int32) ≤ x5 then
      (m_X9_effect x1 x4 S).bind fun r5 =>
      if r5.1 ≤ 0 then
        if inb x4 96 = true then
        (m_X9_lengthOf (r5.2 1 x4.toNatClampNeg) r5.2).bind fun r6 =>
        (m_X9_lengthOf (r5.2 1 x4.toNatClampNeg) r6.2).bind fun r7 =>
        if r7.1 ≤ (1 : Int32) then
          m_X9_findOut_L280 k96 x1 (r5.2 1 x4.toNatClampNeg) (x4 + r6.1) (0 : Int32) r7.2
        else
          if inb (x4 + (1 : Int32)) 96 = true then
          m_X9_findOut_L280 k96 x1 (r5.2 1 x4.toNatClampNeg) (x4 + r6.1) (r7.2 1 (x4 + (1 : Int32)).toNatClampNeg) r7.2
          else none
        else none
      else
        some ((((100 : Int32) * r5.1) + x4), r5.2)
    else
      if inb (((5 : Int32) * x4) + x5) 485 = true then
      if inb x5 5 = true then
      m_X9_findOut_L185 k96 n x1 x4 (x5 + (1 : Int32)) (st S 9 x5.toNatClampNeg (S 6 (((5 : Int32) * x4) + x5).toNatClampNeg))
      else none
      else none
def m_X9_findOut_L96 : Nat → Int32 → Int32 → St → Option (Int32 × St)
  | 0, _, _, _ => none
  | n + 1, x1, x4, S =>
    if inb x1 5 = true then
    if (S 5 x1.toNatClampNeg) < x4 then
      some ((0 : Int32), S)
    else
      if inb ((5 : Int32) * x4) 485 = true then
      if (S 6 ((5 : Int32) * x4).toNatClampNeg) = 0 then
        m_X9_findOut_L96 n x1 (x4 + (1 : Int32)) S
      else
        if inb x4 97 = true then
        if (S 7 x4.toNatClampNeg) = 0 then
          if inb x4 97 = true then
          if inb x1 5 = true then
          if x4 = ((st S 7 x4.toNatClampNeg (1 : Int32)) 5 x1.toNatClampNeg) then
            some (((200 : Int32) + x4), (st S 7 x4.toNatClampNeg (1 : Int32)))
          else
            if inb x1 5 = true then
            (m_X9_isWhole x4 ((st S 7 x4.toNatClampNeg (1 : Int32)) 5 x1.toNatClampNeg) (st S 7 x4.toNatClampNeg (1 : Int32))).bind fun r4 =>
            if r4.1 = 0 then
              some (((100 : Int32) + x4), r4.2)
            else
              m_X9_findOut_L185 (m_X9_findOut_L96 n) 10000 x1 x4 (0 : Int32) r4.2
            else none
          else none
          else none
        else
          m_X9_findOut_L96 n x1 (x4 + (1 : Int32)) S
        else none
      else none
    else none
def m_X9_findOut_L59 : Nat → Int32 → Int32 → St → Option (Int32 × St)
  | 0, _, _, _ => none
  | n + 1, x1, x3, S =>
    if (5 : Int32) ≤ x3 then
      if inb x1 5 = true then
      (m_X9_learn (S 4 x1.toNatClampNeg) S).bind fun r3 =>
      if inb x1 5 = true then
      m_X9_findOut_L96 10000 x1 (r3.2 4 x1.toNatClampNeg) r3.2
      else none
      else none
    else
      if inb x3 5 = true then
      m_X9_findOut_L59 n x1 (x3 + (1 : Int32)) (st S 9 x3.toNatClampNeg (0 : Int32))
      else none
def m_X9_findOut_L14 : Nat → Int32 → Int32 → St → Option (Int32 × St)
  | 0, _, _, _ => none
  | n + 1, x1, x2, S =>
    if inb x1 5 = true then
    (m_X9_isWhole x2 (S 5 x1.toNatClampNeg) S).bind fun r1 =>
    if r1.1 = 0 then
      if inb (0 : Int32) 5 = true then
      m_X9_findOut_L59 10000 x1 (1 : Int32) (st r1.2 9 (0 : Int32).toNatClampNeg (1 : Int32))
      else none
    else
      if inb x2 96 = true then
      (m_X9_lengthOf (r1.2 1 x2.toNatClampNeg) r1.2).bind fun r2 =>
      if inb (x2 + r2.1) 97 = true then
      m_X9_findOut_L14 n x1 (x2 + r2.1) (st r2.2 8 (x2 + r2.1).toNatClampNeg (1 : Int32))
      else none
      else none
    else none
def m_X9_findOut (x1 : Int32) (S : St) : Option (Int32 × St) :=
  if inb x1 5 = true then
  if inb (S 4 x1.toNatClampNeg) 97 = true then
  m_X9_findOut_L14 10000 x1 (S 4 x1.toNatClampNeg) (st S 8 (S 4 x1.toNatClampNeg).toNatClampNeg (1 : Int32))
  else none
  else none

abbrev rm_X9_put : Room := { frames := 0, cells := 0, slots := 0, locals := 0 }
def m_X9_put (x1 : Int32) (S : St) : Option (Int32 × St) :=
  if inb (S 30 27) 6000 = true then
  some (0, (st (st S 11 (S 30 27).toNatClampNeg x1) 30 27 (((st S 11 (S 30 27).toNatClampNeg x1) 30 27) + (1 : Int32))))
  else none

abbrev rm_X9_packPlace : Room := { frames := 1, cells := 0, slots := 0, locals := 21 }
def m_X9_packPlace_L320 (k250 : Int32 → Int32 → Int32 → Int32 → St → Option (Int32 × St)) (x1 : Int32) (x3 : Int32) (x4 : Int32) (x7 : Int32) (x8 : Int32) (S : St) : Option (Int32 × St) :=
  if inb ((2 : Int32) + x7) 5 = true then
  k250 x1 x3 x4 (x7 + (1 : Int32)) (st S 14 ((2 : Int32) + x7).toNatClampNeg x8)
  else none
def m_X9_packPlace_L250 : Nat → Int32 → Int32 → Int32 → Int32 → St → Option (Int32 × St)
  | 0, _, _, _, _, _ => none
  | n + 1, x1, x3, x4, x7, S =>
    if (3 : Int32) ≤ x7 then
      if inb (0 : Int32) 5 = true then
      if inb (1 : Int32) 5 = true then
      some (0, (st (st (st S 14 (0 : Int32).toNatClampNeg x3) 14 (1 : Int32).toNatClampNeg x4) 30 28 x1))
      else none
      else none
    else
      if inb ((((5 : Int32) * x1) + (2 : Int32)) + x7) 485 = true then
      if inb ((2 : Int32) + x7) 5 = true then
      if (S 14 ((2 : Int32) + x7).toNatClampNeg) = (S 6 ((((5 : Int32) * x1) + (2 : Int32)) + x7).toNatClampNeg) then
        m_X9_packPlace_L320 (m_X9_packPlace_L250 n) x1 x3 x4 x7 (S 6 ((((5 : Int32) * x1) + (2 : Int32)) + x7).toNatClampNeg) S
      else
        if (S 6 ((((5 : Int32) * x1) + (2 : Int32)) + x7).toNatClampNeg) ≤ 0 then
          (m_X9_put ((192 : Int32) + x7) S).bind fun r7 =>
          if (S 6 ((((5 : Int32) * x1) + (2 : Int32)) + x7).toNatClampNeg) ≤ 0 then
            m_X9_packPlace_L320 (m_X9_packPlace_L250 n) x1 x3 x4 x7 (S 6 ((((5 : Int32) * x1) + (2 : Int32)) + x7).toNatClampNeg) r7.2
          else
            (m_X9_put (S 6 ((((5 : Int32) * x1) + (2 : Int32)) + x7).toNatClampNeg) r7.2).bind fun r8 =>
            m_X9_packPlace_L320 (m_X9_packPlace_L250 n) x1 x3 x4 x7 (S 6 ((((5 : Int32) * x1) + (2 : Int32)) + x7).toNatClampNeg) r8.2
        else
          (m_X9_put ((128 : Int32) + x7) S).bind fun r9 =>
          if (S 6 ((((5 : Int32) * x1) + (2 : Int32)) + x7).toNatClampNeg) ≤ 0 then
            m_X9_packPlace_L320 (m_X9_packPlace_L250 n) x1 x3 x4 x7 (S 6 ((((5 : Int32) * x1) + (2 : Int32)) + x7).toNatClampNeg) r9.2
          else
            (m_X9_put (S 6 ((((5 : Int32) * x1) + (2 : Int32)) + x7).toNatClampNeg) r9.2).bind fun r10 =>
            m_X9_packPlace_L320 (m_X9_packPlace_L250 n) x1 x3 x4 x7 (S 6 ((((5 : Int32) * x1) + (2 : Int32)) + x7).toNatClampNeg) r10.2
      else none
      else none
def m_X9_packPlace_L196 (x1 : Int32) (x3 : Int32) (x4 : Int32) (z1 : Int32) (S : St) : Option (Int32 × St) :=
  (m_X9_put z1 S).bind fun r11 =>
  (m_X9_put x3 r11.2).bind fun r12 =>
  if inb (1 : Int32) 5 = true then
  if (r12.2 14 (1 : Int32).toNatClampNeg) = x4 then
    m_X9_packPlace_L250 10000 x1 x3 x4 (0 : Int32) r12.2
  else
    (m_X9_put x4 r12.2).bind fun r13 =>
    m_X9_packPlace_L250 10000 x1 x3 x4 (0 : Int32) r13.2
  else none
def m_X9_packPlace_L167 (x1 : Int32) (x3 : Int32) (x4 : Int32) (S : St) : Option (Int32 × St) :=
  if inb (0 : Int32) 5 = true then
  if (S 14 (0 : Int32).toNatClampNeg) = x3 then
    if inb (1 : Int32) 5 = true then
    if (S 14 (1 : Int32).toNatClampNeg) = x4 then
      m_X9_packPlace_L250 10000 x1 x3 x4 (0 : Int32) S
    else
      (m_X9_put (14 : Int32) S).bind fun r5 =>
      (m_X9_put x4 r5.2).bind fun r6 =>
      m_X9_packPlace_L250 10000 x1 x3 x4 (0 : Int32) r6.2
    else none
  else
    if inb (1 : Int32) 5 = true then
    if (S 14 (1 : Int32).toNatClampNeg) = x4 then
      m_X9_packPlace_L196 x1 x3 x4 (13 : Int32) S
    else
      m_X9_packPlace_L196 x1 x3 x4 (12 : Int32) S
    else none
  else none
def m_X9_packPlace_L78 : Nat → Int32 → Int32 → Int32 → Int32 → Int32 → Int32 → St → Option (Int32 × St)
  | 0, _, _, _, _, _, _, _ => none
  | n + 1, x1, x2, x3, x4, x5, x6, S =>
    if (5 : Int32) ≤ x6 then
      if x5 = 0 then
        if (64 : Int32) ≤ (x1 - x2) then
          (m_X9_put (2 : Int32) S).bind fun r1 =>
          if (x1 - x2) ≤ (63 : Int32) then
            m_X9_packPlace_L167 x1 x3 x4 r1.2
          else
            (m_X9_put (x1 - x2) r1.2).bind fun r2 =>
            m_X9_packPlace_L167 x1 x3 x4 r2.2
        else
          (m_X9_put ((64 : Int32) + (x1 - x2)) S).bind fun r3 =>
          if (x1 - x2) ≤ (63 : Int32) then
            m_X9_packPlace_L167 x1 x3 x4 r3.2
          else
            (m_X9_put (x1 - x2) r3.2).bind fun r4 =>
            m_X9_packPlace_L167 x1 x3 x4 r4.2
      else
        some (0, S)
    else
      if x5 = 0 then
        m_X9_packPlace_L78 n x1 x2 x3 x4 (0 : Int32) (x6 + (1 : Int32)) S
      else
        if inb x6 5 = true then
        if inb (((5 : Int32) * x1) + x6) 485 = true then
        if (S 14 x6.toNatClampNeg) = (S 6 (((5 : Int32) * x1) + x6).toNatClampNeg) then
          m_X9_packPlace_L78 n x1 x2 x3 x4 (1 : Int32) (x6 + (1 : Int32)) S
        else
          m_X9_packPlace_L78 n x1 x2 x3 x4 (0 : Int32) (x6 + (1 : Int32)) S
        else none
        else none
def m_X9_packPlace_L45 (x1 : Int32) (x2 : Int32) (x3 : Int32) (z0 : Int32) (S : St) : Option (Int32 × St) :=
  if inb (0 : Int32) 5 = true then
  if (S 14 (0 : Int32).toNatClampNeg) = x3 then
    if inb (1 : Int32) 5 = true then
    if (S 14 (1 : Int32).toNatClampNeg) = z0 then
      m_X9_packPlace_L78 10000 x1 x2 x3 z0 (1 : Int32) (2 : Int32) S
    else
      m_X9_packPlace_L78 10000 x1 x2 x3 z0 (0 : Int32) (2 : Int32) S
    else none
  else
    m_X9_packPlace_L78 10000 x1 x2 x3 z0 (0 : Int32) (2 : Int32) S
  else none
def m_X9_packPlace_L18 (x1 : Int32) (x2 : Int32) (z0 : Int32) (S : St) : Option (Int32 × St) :=
  if z0 = (1 : Int32) then
    if inb (((5 : Int32) * x1) + (1 : Int32)) 485 = true then
    m_X9_packPlace_L45 x1 x2 z0 (S 6 (((5 : Int32) * x1) + (1 : Int32)).toNatClampNeg) S
    else none
  else
    if inb ((5 : Int32) * x1) 485 = true then
    m_X9_packPlace_L45 x1 x2 z0 (S 6 ((5 : Int32) * x1).toNatClampNeg) S
    else none
def m_X9_packPlace (x1 : Int32) (x2 : Int32) (S : St) : Option (Int32 × St) :=
  if inb (((5 : Int32) * x1) + (1 : Int32)) 485 = true then
  if (S 6 (((5 : Int32) * x1) + (1 : Int32)).toNatClampNeg) = 0 then
    m_X9_packPlace_L18 x1 x2 (0 : Int32) S
  else
    m_X9_packPlace_L18 x1 x2 (1 : Int32) S
  else none

abbrev rm_X9_packFunction : Room := { frames := 2, cells := 0, slots := 0, locals := 49 }
def m_X9_packFunction_L93 : Nat → Int32 → Int32 → Int32 → St → Option (Int32 × St)
  | 0, _, _, _, _ => none
  | n + 1, x1, x2, x3, S =>
    if inb x1 5 = true then
    if (S 5 x1.toNatClampNeg) ≤ x3 then
      if inb x2 6000 = true then
      if inb (x2 + (1 : Int32)) 6000 = true then
      some (0, (st (st S 11 x2.toNatClampNeg ((((S 30 27) - x2) - (2 : Int32)) / (256 : Int32))) 11 (x2 + (1 : Int32)).toNatClampNeg ((((S 30 27) - x2) - (2 : Int32)) - (((S 30 27) - x2) - (2 : Int32)) / (256 : Int32) * (256 : Int32))))
      else none
      else none
    else
      if inb ((5 : Int32) * x3) 485 = true then
      if (S 6 ((5 : Int32) * x3).toNatClampNeg) ≤ 0 then
        m_X9_packFunction_L93 n x1 x2 (x3 + (1 : Int32)) S
      else
        (m_X9_packPlace x3 (S 30 28) S).bind fun r5 =>
        m_X9_packFunction_L93 n x1 x2 (x3 + (1 : Int32)) r5.2
      else none
    else none
def m_X9_packFunction_L58 : Nat → Int32 → Int32 → Int32 → St → Option (Int32 × St)
  | 0, _, _, _, _ => none
  | n + 1, x1, x2, x3, S =>
    if (5 : Int32) ≤ x3 then
      if inb x1 5 = true then
      if inb x1 5 = true then
      m_X9_packFunction_L93 10000 x1 x2 ((st S 30 28 (S 4 x1.toNatClampNeg)) 4 x1.toNatClampNeg) (st S 30 28 (S 4 x1.toNatClampNeg))
      else none
      else none
    else
      if inb x3 5 = true then
      m_X9_packFunction_L58 n x1 x2 (x3 + (1 : Int32)) (st S 14 x3.toNatClampNeg (0 : Int32))
      else none
def m_X9_packFunction (x1 : Int32) (S : St) : Option (Int32 × St) :=
  (m_X9_put (0 : Int32) S).bind fun r1 =>
  (m_X9_put (0 : Int32) r1.2).bind fun r2 =>
  if inb x1 5 = true then
  (m_X9_put (r2.2 4 x1.toNatClampNeg) r2.2).bind fun r3 =>
  if inb x1 5 = true then
  if inb x1 5 = true then
  (m_X9_put ((r3.2 5 x1.toNatClampNeg) - (r3.2 4 x1.toNatClampNeg)) r3.2).bind fun r4 =>
  if inb (0 : Int32) 5 = true then
  if inb (1 : Int32) 5 = true then
  m_X9_packFunction_L58 10000 x1 (S 30 27) (2 : Int32) (st (st r4.2 14 (0 : Int32).toNatClampNeg (0 : Int32)) 14 (1 : Int32).toNatClampNeg (1 : Int32))
  else none
  else none
  else none
  else none
  else none

abbrev rm_X9_pack : Room := { frames := 4, cells := 0, slots := 0, locals := 99 }
def m_X9_pack_L44 (k12 : Int32 → St → Option (Int32 × St)) : Nat → Int32 → Int32 → St → Option (Int32 × St)
  | 0, _, _, _ => none
  | n + 1, x1, x2, S =>
    if (97 : Int32) ≤ x2 then
      (m_X9_findOut x1 S).bind fun r1 =>
      if r1.1 ≤ 0 then
        (m_X9_packFunction x1 r1.2).bind fun r2 =>
        k12 (x1 + (1 : Int32)) r2.2
      else
        some ((-r1.1), r1.2)
    else
      if inb x2 97 = true then
      if inb x2 97 = true then
      m_X9_pack_L44 k12 n x1 (x2 + (1 : Int32)) (st (st S 7 x2.toNatClampNeg (0 : Int32)) 8 x2.toNatClampNeg (0 : Int32))
      else none
      else none
def m_X9_pack_L22 (k12 : Int32 → St → Option (Int32 × St)) : Nat → Int32 → Int32 → St → Option (Int32 × St)
  | 0, _, _, _ => none
  | n + 1, x1, x2, S =>
    if (485 : Int32) ≤ x2 then
      m_X9_pack_L44 k12 10000 x1 (0 : Int32) S
    else
      if inb x2 485 = true then
      m_X9_pack_L22 k12 n x1 (x2 + (1 : Int32)) (st S 6 x2.toNatClampNeg (0 : Int32))
      else none
def m_X9_pack_L96 : Nat → Int32 → St → Option (Int32 × St)
  | 0, _, _ => none
  | n + 1, x1, S =>
    if (S 30 27) ≤ x1 then
      some (((st S 30 12 (S 30 27)) 30 12), (st S 30 12 (S 30 27)))
    else
      if inb x1 6000 = true then
      if inb x1 6000 = true then
      m_X9_pack_L96 n (x1 + (1 : Int32)) (st S 10 x1.toNatClampNeg (S 11 x1.toNatClampNeg))
      else none
      else none
def m_X9_pack_L12 : Nat → Int32 → St → Option (Int32 × St)
  | 0, _, _ => none
  | n + 1, x1, S =>
    if (S 30 3) ≤ x1 then
      m_X9_pack_L96 10000 (0 : Int32) S
    else
      m_X9_pack_L22 (m_X9_pack_L12 n) 10000 x1 (0 : Int32) S
def m_X9_pack  (S : St) : Option (Int32 × St) :=
  m_X9_pack_L12 10000 (0 : Int32) (st (st S 30 0 (0 : Int32)) 30 27 (0 : Int32))

abbrev rm_X9_section : Room := { frames := 0, cells := 0, slots := 0, locals := 0 }
def m_X9_section (x1 : Int32) (S : St) : Option (Int32 × St) :=
  if x1 < 0 then
    some ((-1 : Int32), (st S 30 0 (0 : Int32)))
  else
    if x1 < ((st S 30 0 (0 : Int32)) 30 12) then
      if inb x1 6000 = true then
      some (((st S 30 0 (0 : Int32)) 10 x1.toNatClampNeg), (st S 30 0 (0 : Int32)))
      else none
    else
      some ((-1 : Int32), (st S 30 0 (0 : Int32)))

abbrev rm_X9_poke : Room := { frames := 0, cells := 0, slots := 0, locals := 0 }
def m_X9_poke (x1 : Int32) (x2 : Int32) (S : St) : Option (Int32 × St) :=
  if x1 < 0 then
    bz (0 : Int32) (st S 30 0 (0 : Int32))
  else
    if ((st S 30 0 (0 : Int32)) 30 12) ≤ x1 then
      bz (0 : Int32) (st S 30 0 (0 : Int32))
    else
      if x2 < 0 then
        bz (0 : Int32) (st S 30 0 (0 : Int32))
      else
        if x2 ≤ (255 : Int32) then
          if inb x1 6000 = true then
          bz (1 : Int32) (st (st S 30 0 (0 : Int32)) 10 x1.toNatClampNeg x2)
          else none
        else
          bz (0 : Int32) (st S 30 0 (0 : Int32))

abbrev rm_X9_keep : Room := { frames := 0, cells := 0, slots := 0, locals := 0 }
def m_X9_keep_L2 : Nat → Int32 → Int32 → St → Option (Int32 × St)
  | 0, _, _, _ => none
  | n + 1, x1, x2, S =>
    if (5 : Int32) ≤ x2 then
      some (0, S)
    else
      if x1 = 0 then
        some (0, S)
      else
        if inb x2 5 = true then
        if inb x2 5 = true then
        m_X9_keep_L2 n x1 (x2 + (1 : Int32)) (st S 13 x2.toNatClampNeg (S 14 x2.toNatClampNeg))
        else none
        else none
def m_X9_keep (x1 : Int32) (S : St) : Option (Int32 × St) :=
  m_X9_keep_L2 10000 x1 (0 : Int32) S

abbrev rm_X9_readProgram : Room := { frames := 1, cells := 0, slots := 0, locals := 22 }
def m_X9_readProgram_L473 (k62 : Int32 → Int32 → Int32 → Int32 → Int32 → Int32 → Int32 → St → Option (Int32 × St)) (x2 : Int32) (x3 : Int32) (x4 : Int32) (x5 : Int32) (x6 : Int32) (x7 : Int32) (x8 : Int32) (x10 : Int32) (S : St) : Option (Int32 × St) :=
  if x5 < x6 then
    (m_X9_keep (0 : Int32) S).bind fun r3 =>
    k62 x2 x3 x4 x5 x6 x7 (x8 + ((1 : Int32) + x10)) r3.2
  else
    (m_X9_keep (1 : Int32) S).bind fun r4 =>
    k62 x2 x3 x4 x5 x6 x7 (x8 + ((1 : Int32) + x10)) r4.2
def m_X9_readProgram_L182 (k62 : Int32 → Int32 → Int32 → Int32 → Int32 → Int32 → Int32 → St → Option (Int32 × St)) (x2 : Int32) (x3 : Int32) (x4 : Int32) (x5 : Int32) (x6 : Int32) (x7 : Int32) (x8 : Int32) (x9 : Int32) (x10 : Int32) (x11 : Int32) (S : St) : Option (Int32 × St) :=
  if x9 = (2 : Int32) then
    if (x6 + x11) < (x3 + x4) then
      m_X9_readProgram_L473 k62 x2 x3 x4 x5 (x6 + x11) x7 x8 x10 S
    else
      bz (0 : Int32) S
  else
    if (x6 + (x9 - (64 : Int32))) < (x3 + x4) then
      m_X9_readProgram_L473 k62 x2 x3 x4 x5 (x6 + (x9 - (64 : Int32))) x7 x8 x10 S
    else
      bz (0 : Int32) S
def m_X9_readProgram_L232 (k62 : Int32 → Int32 → Int32 → Int32 → Int32 → Int32 → Int32 → St → Option (Int32 × St)) : Nat → Int32 → Int32 → Int32 → Int32 → Int32 → Int32 → Int32 → Int32 → Int32 → St → Option (Int32 × St)
  | 0, _, _, _, _, _, _, _, _, _, _ => none
  | n + 1, x2, x3, x4, x5, x6, x7, x8, x10, x12, S =>
    if (5 : Int32) ≤ x12 then
      m_X9_readProgram_L473 k62 x2 x3 x4 x5 x6 (x7 + (1 : Int32)) x8 x10 S
    else
      if inb x12 5 = true then
      if inb (((5 : Int32) * x7) + x12) 20 = true then
      m_X9_readProgram_L232 k62 n x2 x3 x4 x5 x6 x7 x8 x10 (x12 + (1 : Int32)) (st S 15 (((5 : Int32) * x7) + x12).toNatClampNeg (S 14 x12.toNatClampNeg))
      else none
      else none
def m_X9_readProgram_L289 (k62 : Int32 → Int32 → Int32 → Int32 → Int32 → Int32 → Int32 → St → Option (Int32 × St)) : Nat → Int32 → Int32 → Int32 → Int32 → Int32 → Int32 → Int32 → Int32 → Int32 → St → Option (Int32 × St)
  | 0, _, _, _, _, _, _, _, _, _, _ => none
  | n + 1, x2, x3, x4, x5, x6, x7, x8, x10, x12, S =>
    if (5 : Int32) ≤ x12 then
      m_X9_readProgram_L473 k62 x2 x3 x4 x5 x6 x7 x8 x10 S
    else
      if inb (((5 : Int32) * x7) + x12) 20 = true then
      if inb x12 5 = true then
      m_X9_readProgram_L289 k62 n x2 x3 x4 x5 x6 x7 x8 x10 (x12 + (1 : Int32)) (st S 14 x12.toNatClampNeg (S 15 (((5 : Int32) * x7) + x12).toNatClampNeg))
      else none
      else none
def m_X9_readProgram_L337 (k62 : Int32 → Int32 → Int32 → Int32 → Int32 → Int32 → Int32 → St → Option (Int32 × St)) (x2 : Int32) (x3 : Int32) (x4 : Int32) (x5 : Int32) (x6 : Int32) (x7 : Int32) (x8 : Int32) (x9 : Int32) (x10 : Int32) (x11 : Int32) (S : St) : Option (Int32 × St) :=
  if x11 ≤ (1 : Int32) then
    if inb (0 : Int32) 5 = true then
    if x9 = (12 : Int32) then
      if inb (x8 + (2 : Int32)) 6000 = true then
      if inb (1 : Int32) 5 = true then
      m_X9_readProgram_L473 k62 x2 x3 x4 x5 x6 x7 x8 x10 (st (st S 14 (0 : Int32).toNatClampNeg x11) 14 (1 : Int32).toNatClampNeg ((st S 14 (0 : Int32).toNatClampNeg x11) 10 (x8 + (2 : Int32)).toNatClampNeg))
      else none
      else none
    else
      if inb (1 : Int32) 5 = true then
      if inb (1 : Int32) 5 = true then
      m_X9_readProgram_L473 k62 x2 x3 x4 x5 x6 x7 x8 x10 (st (st S 14 (0 : Int32).toNatClampNeg x11) 14 (1 : Int32).toNatClampNeg ((st S 14 (0 : Int32).toNatClampNeg x11) 14 (1 : Int32).toNatClampNeg))
      else none
      else none
    else none
  else
    bz (0 : Int32) S
def m_X9_readProgram_L435 (k62 : Int32 → Int32 → Int32 → Int32 → Int32 → Int32 → Int32 → St → Option (Int32 × St)) (x2 : Int32) (x3 : Int32) (x4 : Int32) (x5 : Int32) (x6 : Int32) (x7 : Int32) (x8 : Int32) (x9 : Int32) (x10 : Int32) (S : St) : Option (Int32 × St) :=
  if x9 ≤ (191 : Int32) then
    if x9 = 0 then
      m_X9_readProgram_L473 k62 x2 x3 x4 x5 x6 x7 x8 x10 S
    else
      bz (0 : Int32) S
  else
    if (195 : Int32) ≤ x9 then
      if x9 = 0 then
        m_X9_readProgram_L473 k62 x2 x3 x4 x5 x6 x7 x8 x10 S
      else
        bz (0 : Int32) S
    else
      if inb (x9 - (190 : Int32)) 5 = true then
      m_X9_readProgram_L473 k62 x2 x3 x4 x5 x6 x7 x8 x10 (st S 14 (x9 - (190 : Int32)).toNatClampNeg (0 : Int32))
      else none
def m_X9_readProgram_L214 (k62 : Int32 → Int32 → Int32 → Int32 → Int32 → Int32 → Int32 → St → Option (Int32 × St)) (x2 : Int32) (x3 : Int32) (x4 : Int32) (x5 : Int32) (x6 : Int32) (x7 : Int32) (x8 : Int32) (x9 : Int32) (x10 : Int32) (x11 : Int32) (S : St) : Option (Int32 × St) :=
  if x9 = (10 : Int32) then
    if x7 = (4 : Int32) then
      bz (0 : Int32) S
    else
      m_X9_readProgram_L232 k62 10000 x2 x3 x4 x5 x6 x7 x8 x10 (0 : Int32) S
  else
    if x9 = (11 : Int32) then
      if x7 = 0 then
        bz (0 : Int32) S
      else
        m_X9_readProgram_L289 k62 10000 x2 x3 x4 x5 x6 (x7 + (-1 : Int32)) x8 x10 (0 : Int32) S
    else
      if x9 = (12 : Int32) then
        m_X9_readProgram_L337 k62 x2 x3 x4 x5 x6 x7 x8 x9 x10 x11 S
      else
        if x9 = (13 : Int32) then
          m_X9_readProgram_L337 k62 x2 x3 x4 x5 x6 x7 x8 x9 x10 x11 S
        else
          if x9 = (14 : Int32) then
            if inb (1 : Int32) 5 = true then
            m_X9_readProgram_L473 k62 x2 x3 x4 x5 x6 x7 x8 x10 (st S 14 (1 : Int32).toNatClampNeg x11)
            else none
          else
            if x9 ≤ (127 : Int32) then
              m_X9_readProgram_L435 k62 x2 x3 x4 x5 x6 x7 x8 x9 x10 S
            else
              if (131 : Int32) ≤ x9 then
                m_X9_readProgram_L435 k62 x2 x3 x4 x5 x6 x7 x8 x9 x10 S
              else
                if inb (x9 - (126 : Int32)) 5 = true then
                m_X9_readProgram_L473 k62 x2 x3 x4 x5 x6 x7 x8 x10 (st S 14 (x9 - (126 : Int32)).toNatClampNeg x11)
                else none
def m_X9_readProgram_L128 (k62 : Int32 → Int32 → Int32 → Int32 → Int32 → Int32 → Int32 → St → Option (Int32 × St)) (x2 : Int32) (x3 : Int32) (x4 : Int32) (x5 : Int32) (x6 : Int32) (x7 : Int32) (x8 : Int32) (x9 : Int32) (z0 : Int32) (S : St) : Option (Int32 × St) :=
  if (x8 + z0) < x2 then
    if z0 ≤ 0 then
      if x9 = (2 : Int32) then
        m_X9_readProgram_L182 k62 x2 x3 x4 x5 x6 x7 x8 x9 z0 (0 : Int32) S
      else
        if x9 ≤ (63 : Int32) then
          m_X9_readProgram_L214 k62 x2 x3 x4 x5 x6 x7 x8 x9 z0 (0 : Int32) S
        else
          if (128 : Int32) ≤ x9 then
            m_X9_readProgram_L214 k62 x2 x3 x4 x5 x6 x7 x8 x9 z0 (0 : Int32) S
          else
            m_X9_readProgram_L182 k62 x2 x3 x4 x5 x6 x7 x8 x9 z0 (0 : Int32) S
    else
      if inb (x8 + (1 : Int32)) 6000 = true then
      if x9 = (2 : Int32) then
        m_X9_readProgram_L182 k62 x2 x3 x4 x5 x6 x7 x8 x9 z0 (S 10 (x8 + (1 : Int32)).toNatClampNeg) S
      else
        if x9 ≤ (63 : Int32) then
          m_X9_readProgram_L214 k62 x2 x3 x4 x5 x6 x7 x8 x9 z0 (S 10 (x8 + (1 : Int32)).toNatClampNeg) S
        else
          if (128 : Int32) ≤ x9 then
            m_X9_readProgram_L214 k62 x2 x3 x4 x5 x6 x7 x8 x9 z0 (S 10 (x8 + (1 : Int32)).toNatClampNeg) S
          else
            m_X9_readProgram_L182 k62 x2 x3 x4 x5 x6 x7 x8 x9 z0 (S 10 (x8 + (1 : Int32)).toNatClampNeg) S
      else none
  else
    bz (0 : Int32) S
def m_X9_readProgram_L62 : Nat → Int32 → Int32 → Int32 → Int32 → Int32 → Int32 → Int32 → St → Option (Int32 × St)
  | 0, _, _, _, _, _, _, _, _ => none
  | n + 1, x2, x3, x4, x5, x6, x7, x8, S =>
    if x2 ≤ x8 then
      bz (1 : Int32) S
    else
      if inb x8 6000 = true then
      if (S 10 x8.toNatClampNeg) = (2 : Int32) then
        m_X9_readProgram_L128 (m_X9_readProgram_L62 n) x2 x3 x4 x5 x6 x7 x8 (S 10 x8.toNatClampNeg) (1 : Int32) S
      else
        if (S 10 x8.toNatClampNeg) = (13 : Int32) then
          m_X9_readProgram_L128 (m_X9_readProgram_L62 n) x2 x3 x4 x5 x6 x7 x8 (S 10 x8.toNatClampNeg) (1 : Int32) S
        else
          if (S 10 x8.toNatClampNeg) = (14 : Int32) then
            m_X9_readProgram_L128 (m_X9_readProgram_L62 n) x2 x3 x4 x5 x6 x7 x8 (S 10 x8.toNatClampNeg) (1 : Int32) S
          else
            if (S 10 x8.toNatClampNeg) ≤ (127 : Int32) then
              if (S 10 x8.toNatClampNeg) = (12 : Int32) then
                m_X9_readProgram_L128 (m_X9_readProgram_L62 n) x2 x3 x4 x5 x6 x7 x8 (S 10 x8.toNatClampNeg) (2 : Int32) S
              else
                m_X9_readProgram_L128 (m_X9_readProgram_L62 n) x2 x3 x4 x5 x6 x7 x8 (S 10 x8.toNatClampNeg) (0 : Int32) S
            else
              if (131 : Int32) ≤ (S 10 x8.toNatClampNeg) then
                if (S 10 x8.toNatClampNeg) = (12 : Int32) then
                  m_X9_readProgram_L128 (m_X9_readProgram_L62 n) x2 x3 x4 x5 x6 x7 x8 (S 10 x8.toNatClampNeg) (2 : Int32) S
                else
                  m_X9_readProgram_L128 (m_X9_readProgram_L62 n) x2 x3 x4 x5 x6 x7 x8 (S 10 x8.toNatClampNeg) (0 : Int32) S
              else
                m_X9_readProgram_L128 (m_X9_readProgram_L62 n) x2 x3 x4 x5 x6 x7 x8 (S 10 x8.toNatClampNeg) (1 : Int32) S
      else none
def m_X9_readProgram_L17 : Nat → Int32 → Int32 → Int32 → Int32 → Int32 → Int32 → St → Option (Int32 × St)
  | 0, _, _, _, _, _, _, _ => none
  | n + 1, x1, x2, x3, x4, x5, x6, S =>
    if (5 : Int32) ≤ x6 then
      if x5 < x3 then
        (m_X9_keep (0 : Int32) S).bind fun r1 =>
        m_X9_readProgram_L62 10000 x2 x3 x4 x5 x3 (0 : Int32) x1 r1.2
      else
        (m_X9_keep (1 : Int32) S).bind fun r2 =>
        m_X9_readProgram_L62 10000 x2 x3 x4 x5 x3 (0 : Int32) x1 r2.2
    else
      if inb x6 5 = true then
      m_X9_readProgram_L17 n x1 x2 x3 x4 x5 (x6 + (1 : Int32)) (st S 14 x6.toNatClampNeg (0 : Int32))
      else none
def m_X9_readProgram (x1 : Int32) (x2 : Int32) (x3 : Int32) (x4 : Int32) (x5 : Int32) (S : St) : Option (Int32 × St) :=
  if inb (0 : Int32) 5 = true then
  if inb (1 : Int32) 5 = true then
  m_X9_readProgram_L17 10000 x1 x2 x3 x4 x5 (2 : Int32) (st (st S 14 (0 : Int32).toNatClampNeg (0 : Int32)) 14 (1 : Int32).toNatClampNeg (1 : Int32))
  else none
  else none

abbrev rm_X9_findRow : Room := { frames := 2, cells := 0, slots := 0, locals := 54 }
def m_X9_findRow_L2 : Nat → Int32 → Int32 → St → Option (Int32 × St)
  | 0, _, _, _ => none
  | n + 1, x1, x2, S =>
    if (S 30 12) ≤ x2 then
      some ((0 : Int32), S)
    else
      if (x2 + (2 : Int32)) ≤ (S 30 12) then
        if inb x2 6000 = true then
        if inb (x2 + (1 : Int32)) 6000 = true then
        if (((256 : Int32) * (S 10 x2.toNatClampNeg)) + (S 10 (x2 + (1 : Int32)).toNatClampNeg)) < (2 : Int32) then
          some ((-1 : Int32), S)
        else
          if ((x2 + (2 : Int32)) + (((256 : Int32) * (S 10 x2.toNatClampNeg)) + (S 10 (x2 + (1 : Int32)).toNatClampNeg))) ≤ (S 30 12) then
            if inb (x2 + (2 : Int32)) 6000 = true then
            if inb (x2 + (3 : Int32)) 6000 = true then
            if x1 < (S 10 (x2 + (2 : Int32)).toNatClampNeg) then
              m_X9_findRow_L2 n x1 (x2 + ((2 : Int32) + (((256 : Int32) * (S 10 x2.toNatClampNeg)) + (S 10 (x2 + (1 : Int32)).toNatClampNeg)))) S
            else
              if ((S 10 (x2 + (2 : Int32)).toNatClampNeg) + (S 10 (x2 + (3 : Int32)).toNatClampNeg)) ≤ x1 then
                m_X9_findRow_L2 n x1 (x2 + ((2 : Int32) + (((256 : Int32) * (S 10 x2.toNatClampNeg)) + (S 10 (x2 + (1 : Int32)).toNatClampNeg)))) S
              else
                (m_X9_readProgram (x2 + (4 : Int32)) ((x2 + (2 : Int32)) + (((256 : Int32) * (S 10 x2.toNatClampNeg)) + (S 10 (x2 + (1 : Int32)).toNatClampNeg))) (S 10 (x2 + (2 : Int32)).toNatClampNeg) (S 10 (x2 + (3 : Int32)).toNatClampNeg) x1 S).bind fun r1 =>
                if r1.1 = 0 then
                  some ((-1 : Int32), r1.2)
                else
                  some ((1 : Int32), r1.2)
            else none
            else none
          else
            some ((-1 : Int32), S)
        else none
        else none
      else
        some ((-1 : Int32), S)
def m_X9_findRow (x1 : Int32) (S : St) : Option (Int32 × St) :=
  m_X9_findRow_L2 10000 x1 (0 : Int32) S

abbrev rm_X9_row : Room := { frames := 3, cells := 0, slots := 0, locals := 79 }
def m_X9_row_L16 (x2 : Int32) (x3 : Int32) (z1 : Int32) (S : St) : Option (Int32 × St) :=
  if ((st S 30 0 z1) 30 0) ≤ 0 then
    if x3 = 0 then
      some ((-1 : Int32), (st S 30 0 z1))
    else
      if x2 < 0 then
        some ((-1 : Int32), (st S 30 0 z1))
      else
        if x2 ≤ (4 : Int32) then
          if inb x2 5 = true then
          some (((st S 30 0 z1) 13 x2.toNatClampNeg), (st S 30 0 z1))
          else none
        else
          some ((-1 : Int32), (st S 30 0 z1))
  else
    some ((0 : Int32), (st S 30 0 z1))
def m_X9_row (x1 : Int32) (x2 : Int32) (S : St) : Option (Int32 × St) :=
  (m_X9_findRow x1 S).bind fun r1 =>
  if 0 ≤ r1.1 then
    m_X9_row_L16 x2 r1.1 (0 : Int32) r1.2
  else
    m_X9_row_L16 x2 r1.1 (1 : Int32) r1.2

abbrev rm_X9_begin : Room := { frames := 0, cells := 0, slots := 0, locals := 0 }
def m_X9_begin_L17 : Nat → Int32 → Int32 → Int32 → Int32 → Int32 → St → Option (Int32 × St)
  | 0, _, _, _, _, _, _ => none
  | n + 1, x1, x2, x3, x4, x5, S =>
    if (40 : Int32) ≤ x5 then
      if inb (0 : Int32) 3 = true then
      if inb (1 : Int32) 3 = true then
      if inb (2 : Int32) 3 = true then
      if inb (39 : Int32) 40 = true then
      if inb (0 : Int32) 5 = true then
      if inb (0 : Int32) 40 = true then
      bz (1 : Int32) (st (st (st (st (st (st (st (st (st (st (st S 30 16 (1 : Int32)) 30 17 (1 : Int32)) 21 (0 : Int32).toNatClampNeg x1) 21 (1 : Int32).toNatClampNeg x2) 21 (2 : Int32).toNatClampNeg x3) 30 20 x4) 30 19 (39 : Int32)) 22 (39 : Int32).toNatClampNeg (255 : Int32)) 30 18 ((st (st (st (st (st (st (st (st S 30 16 (1 : Int32)) 30 17 (1 : Int32)) 21 (0 : Int32).toNatClampNeg x1) 21 (1 : Int32).toNatClampNeg x2) 21 (2 : Int32).toNatClampNeg x3) 30 20 x4) 30 19 (39 : Int32)) 22 (39 : Int32).toNatClampNeg (255 : Int32)) 4 (0 : Int32).toNatClampNeg)) 30 23 (1 : Int32)) 24 (0 : Int32).toNatClampNeg (255 : Int32))
      else none
      else none
      else none
      else none
      else none
      else none
    else
      if inb x5 40 = true then
      m_X9_begin_L17 n x1 x2 x3 x4 (x5 + (1 : Int32)) (st S 22 x5.toNatClampNeg (0 : Int32))
      else none
def m_X9_begin (x1 : Int32) (x2 : Int32) (x3 : Int32) (x4 : Int32) (S : St) : Option (Int32 × St) :=
  if ((st S 30 0 (0 : Int32)) 30 3) = 0 then
    bz (0 : Int32) (st S 30 0 (0 : Int32))
  else
    m_X9_begin_L17 10000 x1 x2 x3 x4 (0 : Int32) (st S 30 0 (0 : Int32))

abbrev rm_X9_isWord : Room := { frames := 0, cells := 0, slots := 0, locals := 0 }
def m_X9_isWord (x0 : Int64) (S : St) : Option (Int32 × St) :=
  if (lg_cmp x0 (0 : Int64)) < 0 then
    bz (0 : Int32) S
  else
    if 0 ≤ (lg_cmp x0 (40 : Int64)) then
      bz (0 : Int32) S
    else
      bz (1 : Int32) S

abbrev rm_X9_fails : Room := { frames := 1, cells := 0, slots := 0, locals := 21 }
def m_X9_fails (x1 : Int32) (x2 : Int32) (x3 : Int32) (S : St) : Option (Int32 × St) :=
  if x1 = (1 : Int32) then
    if (1 : Int32) ≤ (S 30 19) then
      bz (0 : Int32) S
    else
      bz (1 : Int32) S
  else
    if x1 = (2 : Int32) then
      (m_X9_isWord ((S 30 19).toInt64) S).bind fun r1 =>
      if r1.1 = 0 then
        bz (1 : Int32) r1.2
      else
        bz (0 : Int32) r1.2
    else
      if x1 = (3 : Int32) then
        if 0 ≤ ((S 30 19) - x2) then
          bz (0 : Int32) S
        else
          bz (1 : Int32) S
      else
        if x1 = (4 : Int32) then
          if ((S 30 19) + x2) ≤ (40 : Int32) then
            bz (0 : Int32) S
          else
            bz (1 : Int32) S
        else
          if x1 = (5 : Int32) then
            bz (0 : Int32) S
          else
            if x1 = (6 : Int32) then
              if inb (0 : Int32) 3 = true then
              if (S 21 (0 : Int32).toNatClampNeg) < 0 then
                bz (1 : Int32) S
              else
                if inb (0 : Int32) 3 = true then
                if (S 21 (0 : Int32).toNatClampNeg) ≤ (40 : Int32) then
                  bz (0 : Int32) S
                else
                  bz (1 : Int32) S
                else none
              else none
            else
              if x1 = (7 : Int32) then
                if (S 30 19) < (1 : Int32) then
                  bz (1 : Int32) S
                else
                  if (S 30 23) = (40 : Int32) then
                    bz (1 : Int32) S
                  else
                    bz (0 : Int32) S
              else
                if x1 = (8 : Int32) then
                  (m_X9_isWord ((S 30 19).toInt64) S).bind fun r2 =>
                  if r2.1 = 0 then
                    bz (1 : Int32) r2.2
                  else
                    bz (0 : Int32) r2.2
                else
                  if x1 = (9 : Int32) then
                    bz (0 : Int32) S
                  else
                    if x1 = (10 : Int32) then
                      bz (0 : Int32) S
                    else
                      if x1 = (11 : Int32) then
                        bz (0 : Int32) S
                      else
                        if x1 = (12 : Int32) then
                          bz (0 : Int32) S
                        else
                          if x1 = (13 : Int32) then
                            bz (0 : Int32) S
                          else
                            if x1 = (14 : Int32) then
                              (m_X9_isWord (((S 30 19) + x3).toInt64) S).bind fun r3 =>
                              if r3.1 = 0 then
                                bz (1 : Int32) r3.2
                              else
                                bz (0 : Int32) r3.2
                            else
                              if x1 = (15 : Int32) then
                                (m_X9_isWord (((S 30 19) + x3).toInt64) S).bind fun r4 =>
                                if r4.1 = 0 then
                                  bz (1 : Int32) r4.2
                                else
                                  bz (0 : Int32) r4.2
                              else
                                bz (0 : Int32) S

abbrev rm_X9_step : Room := { frames := 2, cells := 0, slots := 0, locals := 44 }
def m_X9_step_L513 (x4 : Int32) (S : St) : Option (Int32 × St) :=
  some (((st S 30 18 x4) 30 18), (st S 30 18 x4))
def m_X9_step_L103 (x1 : Int32) (x2 : Int32) (x3 : Int32) (z1 : Int32) (S : St) : Option (Int32 × St) :=
  if ((st S 30 0 z1) 30 0) ≤ 0 then
    (m_X9_lengthOf x1 (st S 30 0 z1)).bind fun r6 =>
    if x1 = (1 : Int32) then
      if inb x2 3 = true then
      if inb ((st r6.2 30 19 ((r6.2 30 19) - (1 : Int32))) 30 19) 40 = true then
      m_X9_step_L513 (((st S 30 0 z1) 30 18) + r6.1) (st (st r6.2 30 19 ((r6.2 30 19) - (1 : Int32))) 22 ((st r6.2 30 19 ((r6.2 30 19) - (1 : Int32))) 30 19).toNatClampNeg ((st r6.2 30 19 ((r6.2 30 19) - (1 : Int32))) 21 x2.toNatClampNeg))
      else none
      else none
    else
      if x1 = (2 : Int32) then
        if inb (r6.2 30 19) 40 = true then
        if inb x2 3 = true then
        m_X9_step_L513 (((st S 30 0 z1) 30 18) + r6.1) (st (st r6.2 21 x2.toNatClampNeg (r6.2 22 (r6.2 30 19).toNatClampNeg)) 30 19 (((st r6.2 21 x2.toNatClampNeg (r6.2 22 (r6.2 30 19).toNatClampNeg)) 30 19) + (1 : Int32)))
        else none
        else none
      else
        if x1 = (3 : Int32) then
          m_X9_step_L513 (((st S 30 0 z1) 30 18) + r6.1) (st r6.2 30 19 ((r6.2 30 19) - x2))
        else
          if x1 = (4 : Int32) then
            m_X9_step_L513 (((st S 30 0 z1) 30 18) + r6.1) (st r6.2 30 19 ((r6.2 30 19) + x2))
          else
            if x1 = (5 : Int32) then
              if inb (0 : Int32) 3 = true then
              m_X9_step_L513 (((st S 30 0 z1) 30 18) + r6.1) (st r6.2 21 (0 : Int32).toNatClampNeg (r6.2 30 19))
              else none
            else
              if x1 = (6 : Int32) then
                if inb (0 : Int32) 3 = true then
                m_X9_step_L513 (((st S 30 0 z1) 30 18) + r6.1) (st r6.2 30 19 (r6.2 21 (0 : Int32).toNatClampNeg))
                else none
              else
                if x1 = (7 : Int32) then
                  if inb ((st r6.2 30 19 ((r6.2 30 19) - (1 : Int32))) 30 19) 40 = true then
                  if inb ((st (st r6.2 30 19 ((r6.2 30 19) - (1 : Int32))) 22 ((st r6.2 30 19 ((r6.2 30 19) - (1 : Int32))) 30 19).toNatClampNeg (((st S 30 0 z1) 30 18) + r6.1)) 30 23) 40 = true then
                  m_X9_step_L513 x2 (st (st (st (st r6.2 30 19 ((r6.2 30 19) - (1 : Int32))) 22 ((st r6.2 30 19 ((r6.2 30 19) - (1 : Int32))) 30 19).toNatClampNeg (((st S 30 0 z1) 30 18) + r6.1)) 24 ((st (st r6.2 30 19 ((r6.2 30 19) - (1 : Int32))) 22 ((st r6.2 30 19 ((r6.2 30 19) - (1 : Int32))) 30 19).toNatClampNeg (((st S 30 0 z1) 30 18) + r6.1)) 30 23).toNatClampNeg (((st S 30 0 z1) 30 18) + r6.1)) 30 23 (((st (st (st r6.2 30 19 ((r6.2 30 19) - (1 : Int32))) 22 ((st r6.2 30 19 ((r6.2 30 19) - (1 : Int32))) 30 19).toNatClampNeg (((st S 30 0 z1) 30 18) + r6.1)) 24 ((st (st r6.2 30 19 ((r6.2 30 19) - (1 : Int32))) 22 ((st r6.2 30 19 ((r6.2 30 19) - (1 : Int32))) 30 19).toNatClampNeg (((st S 30 0 z1) 30 18) + r6.1)) 30 23).toNatClampNeg (((st S 30 0 z1) 30 18) + r6.1)) 30 23) + (1 : Int32)))
                  else none
                  else none
                else
                  if x1 = (8 : Int32) then
                    if inb (r6.2 30 19) 40 = true then
                    if ((st r6.2 30 19 ((r6.2 30 19) + (1 : Int32))) 30 23) ≤ 0 then
                      if (r6.2 22 (r6.2 30 19).toNatClampNeg) = (255 : Int32) then
                        m_X9_step_L513 (r6.2 22 (r6.2 30 19).toNatClampNeg) (st (st (st r6.2 30 19 ((r6.2 30 19) + (1 : Int32))) 30 23 (((st r6.2 30 19 ((r6.2 30 19) + (1 : Int32))) 30 23) - (0 : Int32))) 30 17 (0 : Int32))
                      else
                        m_X9_step_L513 (r6.2 22 (r6.2 30 19).toNatClampNeg) (st (st (st r6.2 30 19 ((r6.2 30 19) + (1 : Int32))) 30 23 (((st r6.2 30 19 ((r6.2 30 19) + (1 : Int32))) 30 23) - (0 : Int32))) 30 17 (1 : Int32))
                    else
                      if (r6.2 22 (r6.2 30 19).toNatClampNeg) = (255 : Int32) then
                        m_X9_step_L513 (r6.2 22 (r6.2 30 19).toNatClampNeg) (st (st (st r6.2 30 19 ((r6.2 30 19) + (1 : Int32))) 30 23 (((st r6.2 30 19 ((r6.2 30 19) + (1 : Int32))) 30 23) - (1 : Int32))) 30 17 (0 : Int32))
                      else
                        m_X9_step_L513 (r6.2 22 (r6.2 30 19).toNatClampNeg) (st (st (st r6.2 30 19 ((r6.2 30 19) + (1 : Int32))) 30 23 (((st r6.2 30 19 ((r6.2 30 19) + (1 : Int32))) 30 23) - (1 : Int32))) 30 17 (1 : Int32))
                    else none
                  else
                    if x1 = (9 : Int32) then
                      m_X9_step_L513 x2 r6.2
                    else
                      if x1 = (10 : Int32) then
                        if (r6.2 30 20) = 0 then
                          m_X9_step_L513 (((st S 30 0 z1) 30 18) + r6.1) r6.2
                        else
                          m_X9_step_L513 x2 r6.2
                      else
                        if x1 = (11 : Int32) then
                          if inb x2 3 = true then
                          m_X9_step_L513 (((st S 30 0 z1) 30 18) + r6.1) (st r6.2 21 x2.toNatClampNeg x3)
                          else none
                        else
                          if x1 = (12 : Int32) then
                            m_X9_step_L513 (((st S 30 0 z1) 30 18) + r6.1) (st r6.2 30 20 x2)
                          else
                            if x1 = (13 : Int32) then
                              m_X9_step_L513 (((st S 30 0 z1) 30 18) + r6.1) (st r6.2 30 20 ((r6.2 30 20) - (1 : Int32)))
                            else
                              if x1 = (14 : Int32) then
                                if inb x2 3 = true then
                                if inb ((r6.2 30 19) + x3) 40 = true then
                                m_X9_step_L513 (((st S 30 0 z1) 30 18) + r6.1) (st r6.2 22 ((r6.2 30 19) + x3).toNatClampNeg (r6.2 21 x2.toNatClampNeg))
                                else none
                                else none
                              else
                                if x1 = (15 : Int32) then
                                  if inb ((r6.2 30 19) + x3) 40 = true then
                                  if inb x2 3 = true then
                                  m_X9_step_L513 (((st S 30 0 z1) 30 18) + r6.1) (st r6.2 21 x2.toNatClampNeg (r6.2 22 ((r6.2 30 19) + x3).toNatClampNeg))
                                  else none
                                  else none
                                else
                                  m_X9_step_L513 (((st S 30 0 z1) 30 18) + r6.1) r6.2
  else
    some ((0 : Int32), (st S 30 0 z1))
def m_X9_step_L62 (x1 : Int32) (z0 : Int32) (S : St) : Option (Int32 × St) :=
  (m_X9_lengthOf x1 S).bind fun r3 =>
  if r3.1 ≤ (2 : Int32) then
    (m_X9_fails x1 z0 (0 : Int32) r3.2).bind fun r4 =>
    if r4.1 = 0 then
      m_X9_step_L103 x1 z0 (0 : Int32) (0 : Int32) r4.2
    else
      m_X9_step_L103 x1 z0 (0 : Int32) (2 : Int32) r4.2
  else
    if inb ((r3.2 30 18) + (2 : Int32)) 96 = true then
    (m_X9_fails x1 z0 (r3.2 1 ((r3.2 30 18) + (2 : Int32)).toNatClampNeg) r3.2).bind fun r5 =>
    if r5.1 = 0 then
      m_X9_step_L103 x1 z0 (r3.2 1 ((r3.2 30 18) + (2 : Int32)).toNatClampNeg) (0 : Int32) r5.2
    else
      m_X9_step_L103 x1 z0 (r3.2 1 ((r3.2 30 18) + (2 : Int32)).toNatClampNeg) (2 : Int32) r5.2
    else none
def m_X9_step  (S : St) : Option (Int32 × St) :=
  if (S 30 17) = 0 then
    some ((0 : Int32), (st S 30 0 (1 : Int32)))
  else
    (m_X9_isWhole (S 30 18) (S 30 2) S).bind fun r1 =>
    if r1.1 = 0 then
      some ((0 : Int32), (st r1.2 30 0 (1 : Int32)))
    else
      if inb (r1.2 30 18) 96 = true then
      (m_X9_lengthOf (r1.2 1 (r1.2 30 18).toNatClampNeg) r1.2).bind fun r2 =>
      if r2.1 ≤ (1 : Int32) then
        m_X9_step_L62 (r1.2 1 (r1.2 30 18).toNatClampNeg) (0 : Int32) r2.2
      else
        if inb ((r2.2 30 18) + (1 : Int32)) 96 = true then
        m_X9_step_L62 (r1.2 1 (r1.2 30 18).toNatClampNeg) (r2.2 1 ((r2.2 30 18) + (1 : Int32)).toNatClampNeg) r2.2
        else none
      else none

abbrev rm_X9_machine : Room := { frames := 0, cells := 0, slots := 0, locals := 0 }
def m_X9_machine (x1 : Int32) (S : St) : Option (Int32 × St) :=
  if ((st S 30 0 (0 : Int32)) 30 16) = 0 then
    some ((-1 : Int32), (st S 30 0 (0 : Int32)))
  else
    if x1 < 0 then
      some ((-1 : Int32), (st S 30 0 (0 : Int32)))
    else
      if x1 ≤ (6 : Int32) then
        if x1 = 0 then
          some (((st S 30 0 (0 : Int32)) 30 18), (st S 30 0 (0 : Int32)))
        else
          if x1 = (1 : Int32) then
            some (((st S 30 0 (0 : Int32)) 30 19), (st S 30 0 (0 : Int32)))
          else
            if (5 : Int32) ≤ x1 then
              if x1 = (5 : Int32) then
                some (((st S 30 0 (0 : Int32)) 30 20), (st S 30 0 (0 : Int32)))
              else
                some (((st S 30 0 (0 : Int32)) 30 23), (st S 30 0 (0 : Int32)))
            else
              if inb (x1 - (2 : Int32)) 3 = true then
              some (((st S 30 0 (0 : Int32)) 21 (x1 - (2 : Int32)).toNatClampNeg), (st S 30 0 (0 : Int32)))
              else none
      else
        some ((-1 : Int32), (st S 30 0 (0 : Int32)))

abbrev rm_X9_call : Room := { frames := 0, cells := 0, slots := 0, locals := 0 }
def m_X9_call (x1 : Int32) (S : St) : Option (Int32 × St) :=
  if x1 < 0 then
    some ((-1 : Int32), (st S 30 0 (0 : Int32)))
  else
    if x1 < ((st S 30 0 (0 : Int32)) 30 23) then
      if inb ((((st S 30 0 (0 : Int32)) 30 23) - (1 : Int32)) - x1) 40 = true then
      some (((st S 30 0 (0 : Int32)) 24 ((((st S 30 0 (0 : Int32)) 30 23) - (1 : Int32)) - x1).toNatClampNeg), (st S 30 0 (0 : Int32)))
      else none
    else
      some ((-1 : Int32), (st S 30 0 (0 : Int32)))

abbrev rm_X9_nextFrame : Room := { frames := 3, cells := 0, slots := 0, locals := 79 }
def m_X9_nextFrame_L113 (k78 : Int32 → Int64 → Int32 → St → Option (Int32 × St)) (x1 : Int32) (x2 : Int64) (x4 : Int32) (x5 : Int32) (S : St) : Option (Int32 × St) :=
  if x5 ≤ 0 then
    if inb ((x1 + (2 : Int32)) + x4) 100 = true then
    if inb ((x1 + (7 : Int32)) + x4) 100 = true then
    k78 x1 x2 (x4 + (1 : Int32)) (st S 26 ((x1 + (7 : Int32)) + x4).toNatClampNeg (S 26 ((x1 + (2 : Int32)) + x4).toNatClampNeg))
    else none
    else none
  else
    if inb ((x2.toInt32) - x5) 40 = true then
    if inb ((x1 + (7 : Int32)) + x4) 100 = true then
    k78 x1 x2 (x4 + (1 : Int32)) (st S 26 ((x1 + (7 : Int32)) + x4).toNatClampNeg (S 22 ((x2.toInt32) - x5).toNatClampNeg))
    else none
    else none
def m_X9_nextFrame_L78 : Nat → Int32 → Int64 → Int32 → St → Option (Int32 × St)
  | 0, _, _, _, _ => none
  | n + 1, x1, x2, x4, S =>
    if (3 : Int32) ≤ x4 then
      if inb ((x2.toInt32) - (1 : Int32)) 40 = true then
      if inb (x1 + (5 : Int32)) 100 = true then
      if inb (x1 + (6 : Int32)) 100 = true then
      bz (1 : Int32) (st (st (st S 26 (x1 + (5 : Int32)).toNatClampNeg (S 22 ((x2.toInt32) - (1 : Int32)).toNatClampNeg)) 26 (x1 + (6 : Int32)).toNatClampNeg (x2.toInt32)) 30 25 (((st (st S 26 (x1 + (5 : Int32)).toNatClampNeg (S 22 ((x2.toInt32) - (1 : Int32)).toNatClampNeg)) 26 (x1 + (6 : Int32)).toNatClampNeg (x2.toInt32)) 30 25) + (1 : Int32)))
      else none
      else none
      else none
    else
      if inb ((2 : Int32) + x4) 5 = true then
      if (S 13 ((2 : Int32) + x4).toNatClampNeg) ≤ 0 then
        m_X9_nextFrame_L113 (m_X9_nextFrame_L78 n) x1 x2 x4 (S 13 ((2 : Int32) + x4).toNatClampNeg) S
      else
        (m_X9_isWord (x2 - ((S 13 ((2 : Int32) + x4).toNatClampNeg).toInt64)) S).bind fun r3 =>
        if r3.1 = 0 then
          bz (0 : Int32) r3.2
        else
          m_X9_nextFrame_L113 (m_X9_nextFrame_L78 n) x1 x2 x4 (S 13 ((2 : Int32) + x4).toNatClampNeg) r3.2
      else none
def m_X9_nextFrame_L54 (x1 : Int32) (z0 : Int32) (S : St) : Option (Int32 × St) :=
  if inb (1 : Int32) 5 = true then
  (m_X9_isWord (((z0.toInt64) + ((S 13 (1 : Int32).toNatClampNeg).toInt64)) - (1 : Int64)) S).bind fun r2 =>
  if r2.1 = 0 then
    bz (0 : Int32) r2.2
  else
    m_X9_nextFrame_L78 10000 x1 ((z0.toInt64) + ((S 13 (1 : Int32).toNatClampNeg).toInt64)) (0 : Int32) r2.2
  else none
def m_X9_nextFrame  (S : St) : Option (Int32 × St) :=
  if inb ((5 : Int32) * ((S 30 25) - (1 : Int32))) 100 = true then
  (m_X9_findRow (S 26 ((5 : Int32) * ((S 30 25) - (1 : Int32))).toNatClampNeg) S).bind fun r1 =>
  if (1 : Int32) ≤ r1.1 then
    if inb (0 : Int32) 5 = true then
    if (r1.2 13 (0 : Int32).toNatClampNeg) = (1 : Int32) then
      if inb (((5 : Int32) * ((S 30 25) - (1 : Int32))) + (2 : Int32)) 100 = true then
      m_X9_nextFrame_L54 ((5 : Int32) * ((S 30 25) - (1 : Int32))) (r1.2 26 (((5 : Int32) * ((S 30 25) - (1 : Int32))) + (2 : Int32)).toNatClampNeg) r1.2
      else none
    else
      if inb (((5 : Int32) * ((S 30 25) - (1 : Int32))) + (1 : Int32)) 100 = true then
      m_X9_nextFrame_L54 ((5 : Int32) * ((S 30 25) - (1 : Int32))) (r1.2 26 (((5 : Int32) * ((S 30 25) - (1 : Int32))) + (1 : Int32)).toNatClampNeg) r1.2
      else none
    else none
  else
    bz (0 : Int32) r1.2
  else none

abbrev rm_X9_unwind : Room := { frames := 4, cells := 0, slots := 0, locals := 104 }
def m_X9_unwind_L121 (x1 : Int32) (S : St) : Option (Int32 × St) :=
  if x1 = 0 then
    if x1 = 0 then
      some ((-1 : Int32), (st S 30 25 (0 : Int32)))
    else
      some (((st S 30 25 (0 : Int32)) 30 25), (st S 30 25 (0 : Int32)))
  else
    if x1 = 0 then
      some ((-1 : Int32), (st S 30 25 (S 30 25)))
    else
      some (((st S 30 25 (S 30 25)) 30 25), (st S 30 25 (S 30 25)))
def m_X9_unwind_L73 : Nat → Int32 → St → Option (Int32 × St)
  | 0, _, _ => none
  | n + 1, x1, S =>
    if x1 = 0 then
      m_X9_unwind_L121 x1 S
    else
      if inb (((5 : Int32) * (S 30 25)) - (5 : Int32)) 100 = true then
      if (S 26 (((5 : Int32) * (S 30 25)) - (5 : Int32)).toNatClampNeg) = (255 : Int32) then
        m_X9_unwind_L121 x1 S
      else
        if (20 : Int32) ≤ (S 30 25) then
          m_X9_unwind_L73 n (0 : Int32) S
        else
          (m_X9_nextFrame  S).bind fun r1 =>
          if r1.1 = 0 then
            m_X9_unwind_L73 n (0 : Int32) r1.2
          else
            m_X9_unwind_L73 n (1 : Int32) r1.2
      else none
def m_X9_unwind_L41 : Nat → Int32 → St → Option (Int32 × St)
  | 0, _, _ => none
  | n + 1, x1, S =>
    if (3 : Int32) ≤ x1 then
      m_X9_unwind_L73 10000 (1 : Int32) (st S 30 25 (1 : Int32))
    else
      if inb x1 3 = true then
      if inb ((2 : Int32) + x1) 100 = true then
      m_X9_unwind_L41 n (x1 + (1 : Int32)) (st S 26 ((2 : Int32) + x1).toNatClampNeg (S 21 x1.toNatClampNeg))
      else none
      else none
def m_X9_unwind  (S : St) : Option (Int32 × St) :=
  if ((st (st S 30 0 (0 : Int32)) 30 25 (0 : Int32)) 30 17) = 0 then
    some ((-1 : Int32), (st (st S 30 0 (0 : Int32)) 30 25 (0 : Int32)))
  else
    if inb (0 : Int32) 100 = true then
    if inb (1 : Int32) 100 = true then
    m_X9_unwind_L41 10000 (0 : Int32) (st (st (st (st S 30 0 (0 : Int32)) 30 25 (0 : Int32)) 26 (0 : Int32).toNatClampNeg ((st (st S 30 0 (0 : Int32)) 30 25 (0 : Int32)) 30 18)) 26 (1 : Int32).toNatClampNeg ((st (st (st S 30 0 (0 : Int32)) 30 25 (0 : Int32)) 26 (0 : Int32).toNatClampNeg ((st (st S 30 0 (0 : Int32)) 30 25 (0 : Int32)) 30 18)) 30 19))
    else none
    else none

abbrev rm_X9_frame : Room := { frames := 0, cells := 0, slots := 0, locals := 0 }
def m_X9_frame (x1 : Int32) (x2 : Int32) (S : St) : Option (Int32 × St) :=
  if x1 < 0 then
    some ((-1 : Int32), (st S 30 0 (0 : Int32)))
  else
    if ((st S 30 0 (0 : Int32)) 30 25) ≤ x1 then
      some ((-1 : Int32), (st S 30 0 (0 : Int32)))
    else
      if x2 < 0 then
        some ((-1 : Int32), (st S 30 0 (0 : Int32)))
      else
        if x2 ≤ (4 : Int32) then
          if inb (((5 : Int32) * x1) + x2) 100 = true then
          some (((st S 30 0 (0 : Int32)) 26 (((5 : Int32) * x1) + x2).toNatClampNeg), (st S 30 0 (0 : Int32)))
          else none
        else
          some ((-1 : Int32), (st S 30 0 (0 : Int32)))
