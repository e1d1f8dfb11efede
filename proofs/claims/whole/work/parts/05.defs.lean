def f_J13_bitCount_95d88 (u0 : Int64) : Option (Int32 × Unit) := (
 (some (u0 - ((u0.toUInt64 >>> ((1 : Int32).toInt64.toUInt64 &&& Int64.toUInt64 63)).toInt64 &&& (6148914691236517205 : Int64)))).bind fun z1 => (
  (some ((z1 &&& (3689348814741910323 : Int64)) + ((z1.toUInt64 >>> ((2 : Int32).toInt64.toUInt64 &&& Int64.toUInt64 63)).toInt64 &&& (3689348814741910323 : Int64)))).bind fun z3 => (
   (some ((z3 + (z3.toUInt64 >>> ((4 : Int32).toInt64.toUInt64 &&& Int64.toUInt64 63)).toInt64) &&& (1085102592571150095 : Int64))).bind fun z5 => (
    (some (z5 + (z5.toUInt64 >>> ((8 : Int32).toInt64.toUInt64 &&& Int64.toUInt64 63)).toInt64)).bind fun z7 => (
     (some (z7 + (z7.toUInt64 >>> ((16 : Int32).toInt64.toUInt64 &&& Int64.toUInt64 63)).toInt64)).bind fun z9 => (
      (some (z9 + (z9.toUInt64 >>> ((32 : Int32).toInt64.toUInt64 &&& Int64.toUInt64 63)).toInt64)).bind fun z11 => (
       some ((z11.toInt32 &&& (127 : Int32)), ())
      )
     )
    )
   )
  )
 )
)
def f_J7_fill_53178_l5 (n : Nat) (nX : Nat) (x1 : Int32) (x3 : Int32) (rc5 : (Int32 × (Nat → Int32)) → Option ((Nat → Int32))) : (Int32 × (Nat → Int32)) → Option ((Nat → Int32)) := fun (x2, xA) => (
 if x3 ≤ x2 then (
  some (xA)
 ) else (
  if inb x2 nX = true then (
   rc5 ((x2 + 1), (upd xA x2.toNatClampNeg x1))
  ) else none
 )
)
def f_J7_fill_53178 (n : Nat) (nX : Nat) (u1 : Int32) (xA : Nat → Int32) : Option ((Nat → Int32)) := (
 lp (f_J7_fill_53178_l5 n nX u1 (Int32.ofNat nX) ) n ((0 : Int32), xA)
)
def f_X4_isRegister (u0 : Int32) : Option (Int32 × Unit) := (
 if u0 < 0 then (
  some ((0 : Int32), ())
 ) else (
  if (16 : Int32) ≤ u0 then (
   some ((0 : Int32), ())
  ) else (
   some ((1 : Int32), ())
  )
 )
)
def f_X4_isCell (u0 : Int32) : Option (Int32 × Unit) := (
 if u0 < 0 then (
  some ((0 : Int32), ())
 ) else (
  if (8 : Int32) ≤ u0 then (
   some ((0 : Int32), ())
  ) else (
   some ((1 : Int32), ())
  )
 )
)
def f_X4_isDivision (u0 : Int32) : Option (Int32 × Unit) := (
 if u0 < (12 : Int32) then (
  some ((0 : Int32), ())
 ) else (
  if (15 : Int32) < u0 then (
   some ((0 : Int32), ())
  ) else (
   some ((1 : Int32), ())
  )
 )
)
def f_X4_mark (u0 : Int32) : Option (Int64 × Unit) := (
 some (((1 : Int64) <<< (((59 : Int32) - u0).toInt64 &&& 63)), ())
)
def f_X4_isMarked (u0 : Int64) (u2 : Int32) : Option (Int32 × Unit) := (
 (f_X4_mark u2).bind fun (r1, _u1) => (
  if (lg_cmp (u0 &&& r1) (0 : Int64)) = 0 then (
   some ((0 : Int32), ())
  ) else (
   some ((1 : Int32), ())
  )
 )
)
def f_X4_placeOfMark_b32 (n : Nat) (rc5 : (Int32 × Int32) → Option (Int32 × Unit)) (x0 : Int64) (x2 : Int32) (x3 : Int32) (x4 : Int32) : Option (Int32 × Unit) := (
 rc5 (x3, (x4 + 1))
)
def f_X4_placeOfMark_l5 (n : Nat) (x0 : Int64) (x2 : Int32) (rc5 : (Int32 × Int32) → Option (Int32 × Unit)) : (Int32 × Int32) → Option (Int32 × Unit) := fun (x3, x4) => (
 if (60 : Int32) ≤ x4 then (
  some ((-1 : Int32), ())
 ) else (
  (f_X4_isMarked x0 x4).bind fun (r2, _u2) => (
   if r2 = 0 then (
    f_X4_placeOfMark_b32 n rc5 x0 x2 x3 x4 
   ) else (
    if x3 = x2 then (
     some (x4, ())
    ) else (
     f_X4_placeOfMark_b32 n rc5 x0 x2 (x3 + 1) x4 
    )
   )
  )
 )
)
def f_X4_placeOfMark (n : Nat) (u0 : Int64) (u2 : Int32) : Option (Int32 × Unit) := (
 lp (f_X4_placeOfMark_l5 n u0 u2 ) n ((0 : Int32), (0 : Int32))
)
def f_X4_isBelowUnsigned (u0 : Int32) (u1 : Int32) : Option (Int32 × Unit) := (
 if 0 ≤ (lg_cmp (u0.toInt64 &&& (4294967295 : Int64)) (u1.toInt64 &&& (4294967295 : Int64))) then (
  some ((0 : Int32), ())
 ) else (
  some ((1 : Int32), ())
 )
)
def f_X4_combine (u0 : Int32) (u1 : Int32) (u2 : Int32) : Option (Int32 × Unit) := (
 if u0 = (3 : Int32) then (
  some ((u1 + u2), ())
 ) else (
  if u0 = (4 : Int32) then (
   some ((u1 - u2), ())
  ) else (
   if u0 = (5 : Int32) then (
    some ((u1 * u2), ())
   ) else (
    if u0 = (6 : Int32) then (
     some ((u1 &&& u2), ())
    ) else (
     if u0 = (7 : Int32) then (
      some ((u1 ||| u2), ())
     ) else (
      if u0 = (8 : Int32) then (
       some ((u1 ^^^ u2), ())
      ) else (
       if u0 = (9 : Int32) then (
        some ((u1 <<< (u2 &&& 31)), ())
       ) else (
        if u0 = (10 : Int32) then (
         some ((u1.toUInt32 >>> (u2.toUInt32 &&& Int32.toUInt32 31)).toInt32, ())
        ) else (
         if u0 = (11 : Int32) then (
          some ((u1 >>> (u2 &&& 31)), ())
         ) else (
          if u0 = (16 : Int32) then (
           if u1 = u2 then (
            some ((1 : Int32), ())
           ) else (
            some ((0 : Int32), ())
           )
          ) else (
           if u0 = (17 : Int32) then (
            if u1 = u2 then (
             some ((0 : Int32), ())
            ) else (
             some ((1 : Int32), ())
            )
           ) else (
            if u0 = (18 : Int32) then (
             (f_X4_isBelowUnsigned u1 u2).bind fun (r3, _u3) => (
              if r3 = 0 then (
               some ((0 : Int32), ())
              ) else (
               some ((1 : Int32), ())
              )
             )
            ) else (
             if u0 = (19 : Int32) then (
              (f_X4_isBelowUnsigned u2 u1).bind fun (r5, _u5) => (
               if r5 = 0 then (
                some ((1 : Int32), ())
               ) else (
                some ((0 : Int32), ())
               )
              )
             ) else (
              if u0 = (20 : Int32) then (
               if u2 ≤ u1 then (
                some ((0 : Int32), ())
               ) else (
                some ((1 : Int32), ())
               )
              ) else (
               if u0 = (21 : Int32) then (
                if u2 < u1 then (
                 some ((0 : Int32), ())
                ) else (
                 some ((1 : Int32), ())
                )
               ) else (
                some ((0 : Int32), ())
               )
              )
             )
            )
           )
          )
         )
        )
       )
      )
     )
    )
   )
  )
 )
)
def f_X4_divide_b91 (y0 : Int64) : Option (Int32 × Unit) := (
 some (y0.toInt32, ())
)
def f_X4_divide_b44 (x1 : Int32) (x2 : Int32) (x3 : Int32) : Option (Int32 × Unit) := (
 if x3 = 0 then (
  if ¬ x2 = 0 then (
   some ((x1 / x2), ())
  ) else none
 ) else (
  if ¬ x2 = 0 then (
   some ((x1 - x1 / x2 * x2), ())
  ) else none
 )
)
def f_X4_divide_b17 (x0 : Int32) (x1 : Int32) (x2 : Int32) (y0 : Int32) : Option (Int32 × Unit) := (
 if x2 = 0 then (
  if y0 = 0 then (
   some ((-1 : Int32), ())
  ) else (
   some (x1, ())
  )
 ) else (
  if x0 = (14 : Int32) then (
   f_X4_divide_b44 x1 x2 y0 
  ) else (
   if x0 = (15 : Int32) then (
    f_X4_divide_b44 x1 x2 y0 
   ) else (
    if y0 = 0 then (
     if ¬ (x2.toInt64 &&& (4294967295 : Int64)) = 0 then (
      f_X4_divide_b91 ((x1.toInt64 &&& (4294967295 : Int64)) / (x2.toInt64 &&& (4294967295 : Int64))) 
     ) else none
    ) else (
     if ¬ (x2.toInt64 &&& (4294967295 : Int64)) = 0 then (
      f_X4_divide_b91 ((x1.toInt64 &&& (4294967295 : Int64)) - (x1.toInt64 &&& (4294967295 : Int64)) / (x2.toInt64 &&& (4294967295 : Int64)) * (x2.toInt64 &&& (4294967295 : Int64))) 
     ) else none
    )
   )
  )
 )
)
def f_X4_divide_b12 (x0 : Int32) (x1 : Int32) (x2 : Int32) : Option (Int32 × Unit) := (
 f_X4_divide_b17 x0 x1 x2 (1 : Int32) 
)
def f_X4_divide (u0 : Int32) (u1 : Int32) (u2 : Int32) : Option (Int32 × Unit) := (
 if u0 = (13 : Int32) then (
  f_X4_divide_b12 u0 u1 u2 
 ) else (
  if u0 = (15 : Int32) then (
   f_X4_divide_b12 u0 u1 u2 
  ) else (
   f_X4_divide_b17 u0 u1 u2 (0 : Int32) 
  )
 )
)
def f_X3_takesThreeRegisters_b11 (x0 : Int32) : Option (Int32 × Unit) := (
 if x0 = (24 : Int32) then (
  some ((1 : Int32), ())
 ) else (
  some ((0 : Int32), ())
 )
)
def f_X3_takesThreeRegisters (u0 : Int32) : Option (Int32 × Unit) := (
 if u0 < (3 : Int32) then (
  f_X3_takesThreeRegisters_b11 u0 
 ) else (
  if u0 ≤ (21 : Int32) then (
   some ((1 : Int32), ())
  ) else (
   f_X3_takesThreeRegisters_b11 u0 
  )
 )
)
def f_X3_empty (pI : Nat → Int32) : Option ((Nat → Int32)) := (
 some ((upd (upd (upd (upd (upd pI 0 (0 : Int32)) 1 (0 : Int32)) 2 (0 : Int32)) 3 (0 : Int32)) 4 (0 : Int32)))
)
def f_X3_isTarget (u1 : Int32) (pI : Nat → Int32) : Option (Int32 × Unit) := (
 if u1 ≤ (pI 2) then (
  some ((0 : Int32), ())
 ) else (
  if (60 : Int32) < u1 then (
   some ((0 : Int32), ())
  ) else (
   some ((1 : Int32), ())
  )
 )
)
def f_X3_wouldBeTooMany_b14 (x1 : Int32) (pI : Nat → Int32) : Option (Int32 × Unit) := (
 (f_X4_isDivision x1).bind fun (r1, _u1) => (
  if r1 = 0 then (
   some ((0 : Int32), ())
  ) else (
   if (pI 4) < (6 : Int32) then (
    some ((0 : Int32), ())
   ) else (
    some ((1 : Int32), ())
   )
  )
 )
)
def f_X3_wouldBeTooMany (u1 : Int32) (pI : Nat → Int32) : Option (Int32 × Unit) := (
 if u1 = (5 : Int32) then (
  if (6 : Int32) ≤ (pI 3) then (
   some ((1 : Int32), ())
  ) else (
   f_X3_wouldBeTooMany_b14 u1 pI
  )
 ) else (
  f_X3_wouldBeTooMany_b14 u1 pI
 )
)
def f_X3_fits_b238 (x1 : Int32) (x2 : Int32) (x3 : Int32) (x4 : Int32) (pI : Nat → Int32) : Option (Int32 × Unit) := (
 (f_X3_takesThreeRegisters x1).bind fun (r1, _u1) => (
  if r1 = 0 then (
   some ((0 : Int32), ())
  ) else (
   (f_X4_isRegister x2).bind fun (r3, _u3) => (
    if r3 = 0 then (
     some ((0 : Int32), ())
    ) else (
     (f_X4_isRegister x3).bind fun (r5, _u5) => (
      if r5 = 0 then (
       some ((0 : Int32), ())
      ) else (
       (f_X4_isRegister x4).bind fun (r7, _u7) => (
        if r7 = 0 then (
         some ((0 : Int32), ())
        ) else (
         some ((1 : Int32), ())
        )
       )
      )
     )
    )
   )
  )
 )
)
def f_X3_fits_b174 (x2 : Int32) (x3 : Int32) (pI : Nat → Int32) : Option (Int32 × Unit) := (
 (f_X4_isRegister x2).bind fun (r9, _u9) => (
  if r9 = 0 then (
   some ((0 : Int32), ())
  ) else (
   (f_X4_isRegister x3).bind fun (r11, _u11) => (
    if r11 = 0 then (
     some ((0 : Int32), ())
    ) else (
     some ((1 : Int32), ())
    )
   )
  )
 )
)
def f_X3_fits_b144 (x2 : Int32) (pI : Nat → Int32) : Option (Int32 × Unit) := (
 (f_X4_isRegister x2).bind fun (r13, _u13) => (
  if r13 = 0 ∨ r13 = 1 then some (r13, ()) else none
 )
)
def f_X3_fits (u1 : Int32) (u2 : Int32) (u3 : Int32) (u4 : Int32) (pI : Nat → Int32) : Option (Int32 × Unit) := (
 if u1 = (0 : Int32) then (
  f_X3_fits_b144 u2 pI
 ) else (
  if u1 = (1 : Int32) then (
   (f_X4_isRegister u2).bind fun (r14, _u14) => (
    if r14 = 0 then (
     some ((0 : Int32), ())
    ) else (
     if u3 < 0 then (
      some ((0 : Int32), ())
     ) else (
      if (pI 0) ≤ u3 then (
       some ((0 : Int32), ())
      ) else (
       some ((1 : Int32), ())
      )
     )
    )
   )
  ) else (
   if u1 = (2 : Int32) then (
    f_X3_fits_b174 u2 u3 pI
   ) else (
    if u1 = (22 : Int32) then (
     f_X3_fits_b174 u2 u3 pI
    ) else (
     if u1 = (23 : Int32) then (
      f_X3_fits_b174 u2 u3 pI
     ) else (
      if u1 = (25 : Int32) then (
       f_X3_fits_b174 u2 u3 pI
      ) else (
       if u1 = (26 : Int32) then (
        f_X3_fits_b174 u2 u3 pI
       ) else (
        if u1 = (27 : Int32) then (
         (f_X4_isRegister u2).bind fun (r18, _u18) => (
          if r18 = 0 then (
           some ((0 : Int32), ())
          ) else (
           (f_X3_isTarget u3 pI).bind fun (r20, _u20) => (
            if r20 = 0 then (
             some ((0 : Int32), ())
            ) else (
             some ((1 : Int32), ())
            )
           )
          )
         )
        ) else (
         if u1 = (28 : Int32) then (
          (f_X3_isTarget u2 pI).bind fun (r22, _u22) => (
           if r22 = 0 ∨ r22 = 1 then some (r22, ()) else none
          )
         ) else (
          if u1 = (29 : Int32) then (
           f_X3_fits_b144 u2 pI
          ) else (
           if u1 = (30 : Int32) then (
            if u2 < 0 then (
             some ((0 : Int32), ())
            ) else (
             if (255 : Int32) < u2 then (
              some ((0 : Int32), ())
             ) else (
              some ((1 : Int32), ())
             )
            )
           ) else (
            if u1 = (31 : Int32) then (
             f_X3_fits_b144 u2 pI
            ) else (
             f_X3_fits_b238 u1 u2 u3 u4 pI
            )
           )
          )
         )
        )
       )
      )
     )
    )
   )
  )
 )
)
def f_X3_addInput (u1 : Int32) (u2 : Int32) (pI : Nat → Int32) (pA : Nat → Nat → Int32) : Option (Int32 × (Nat → Int32) × (Nat → Nat → Int32)) := (
 if (4 : Int32) ≤ (pI 0) then (
  some ((-1 : Int32), (pI, pA))
 ) else (
  if u1 < (1 : Int32) then (
   some ((-1 : Int32), (pI, pA))
  ) else (
   if u1 ≤ ((12 : Int32) - (pI 1)) then (
    if inb ((upd pI 1 ((pI 1) + u1)) 0) 4 = true then (
     (some (up2 pA 0 ((upd pI 1 ((pI 1) + u1)) 0).toNatClampNeg u1)).bind fun pA_6 => (
      if inb ((upd pI 1 ((pI 1) + u1)) 0) 4 = true then (
       (some (up2 pA_6 1 ((upd pI 1 ((pI 1) + u1)) 0).toNatClampNeg ((upd pI 1 ((pI 1) + u1)) 1))).bind fun pA_9 => (
        if inb ((upd pI 1 ((pI 1) + u1)) 0) 4 = true then (
         some ((((upd (upd pI 1 ((pI 1) + u1)) 0 (((upd pI 1 ((pI 1) + u1)) 0) + (1 : Int32))) 0) - (1 : Int32)), ((upd (upd pI 1 ((pI 1) + u1)) 0 (((upd pI 1 ((pI 1) + u1)) 0) + (1 : Int32))), (up2 pA_9 2 ((upd pI 1 ((pI 1) + u1)) 0).toNatClampNeg (vp_nar .boolean u2))))
        ) else none
       )
      ) else none
     )
    ) else none
   ) else (
    some ((-1 : Int32), (pI, pA))
   )
  )
 )
)
def f_X3_addInstruction_b108 (y1 : Int32) (y2 : Int32) (pI : Nat → Int32) (pA : Nat → Nat → Int32) : Option (Int32 × (Nat → Int32) × (Nat → Nat → Int32)) := (
 some ((((upd (upd pI 4 (y1 + y2)) 2 (((upd pI 4 (y1 + y2)) 2) + (1 : Int32))) 2) - (1 : Int32)), ((upd (upd pI 4 (y1 + y2)) 2 (((upd pI 4 (y1 + y2)) 2) + (1 : Int32))), pA))
)
def f_X3_addInstruction_b87 (x1 : Int32) (y1 : Int32) (y2 : Int32) (pI : Nat → Int32) (pA : Nat → Nat → Int32) : Option (Int32 × (Nat → Int32) × (Nat → Nat → Int32)) := (
 (f_X4_isDivision x1).bind fun (r1, _u1) => (
  if r1 = 0 then (
   f_X3_addInstruction_b108 ((upd pI 3 (y1 + y2)) 4) (0 : Int32) (upd pI 3 (y1 + y2)) pA
  ) else (
   f_X3_addInstruction_b108 ((upd pI 3 (y1 + y2)) 4) (1 : Int32) (upd pI 3 (y1 + y2)) pA
  )
 )
)
def f_X3_addInstruction (u1 : Int32) (u2 : Int32) (u3 : Int32) (u4 : Int32) (pI : Nat → Int32) (pA : Nat → Nat → Int32) : Option (Int32 × (Nat → Int32) × (Nat → Nat → Int32)) := (
 if (60 : Int32) ≤ (pI 2) then (
  some ((-1 : Int32), (pI, pA))
 ) else (
  (f_X3_fits u1 u2 u3 u4 pI).bind fun (r4, _u4) => (
   if r4 = 0 then (
    some ((-1 : Int32), (pI, pA))
   ) else (
    (f_X3_wouldBeTooMany u1 pI).bind fun (r6, _u6) => (
     if r6 = 0 then (
      if inb (pI 2) 60 = true then (
       (some (up2 pA 3 (pI 2).toNatClampNeg u1)).bind fun pA_10 => (
        if inb (pI 2) 60 = true then (
         (some (up2 pA_10 4 (pI 2).toNatClampNeg u2)).bind fun pA_13 => (
          if inb (pI 2) 60 = true then (
           (some (up2 pA_13 5 (pI 2).toNatClampNeg u3)).bind fun pA_16 => (
            if inb (pI 2) 60 = true then (
             if u1 = (5 : Int32) then (
              f_X3_addInstruction_b87 u1 (pI 3) (1 : Int32) pI (up2 pA_16 6 (pI 2).toNatClampNeg u4)
             ) else (
              f_X3_addInstruction_b87 u1 (pI 3) (0 : Int32) pI (up2 pA_16 6 (pI 2).toNatClampNeg u4)
             )
            ) else none
           )
          ) else none
         )
        ) else none
       )
      ) else none
     ) else (
      some ((-1 : Int32), (pI, pA))
     )
    )
   )
  )
 )
)
def f_X3_words (pI : Nat → Int32) : Option (Int32 × Unit) := (
 some (((1 : Int32) <<< ((pI 1) &&& 31)), ())
)
def f_X3_hasWord (u1 : Int32) (pI : Nat → Int32) : Option (Int32 × Unit) := (
 if u1 < 0 then (
  some ((0 : Int32), ())
 ) else (
  (f_X3_words pI).bind fun (r2, _u2) => (
   if r2 ≤ u1 then (
    some ((0 : Int32), ())
   ) else (
    some ((1 : Int32), ())
   )
  )
 )
)
def f_X3_inputIn (u1 : Int32) (u2 : Int32) (pI : Nat → Int32) (pA : Nat → Nat → Int32) : Option (Int32 × Unit) := (
 if inb u2 4 = true then (
  if inb u2 4 = true then (
   (some ((u1 >>> (((pI 1) - (pA 1 u2.toNatClampNeg)) &&& 31)) <<< (((32 : Int32) - (pA 0 u2.toNatClampNeg)) &&& 31))).bind fun z3 => (
    if inb u2 4 = true then (
     if (pA 2 u2.toNatClampNeg) = 0 then (
      some ((z3.toUInt32 >>> (((32 : Int32) - (pA 0 u2.toNatClampNeg)).toUInt32 &&& Int32.toUInt32 31)).toInt32, ())
     ) else (
      some ((z3 >>> (((32 : Int32) - (pA 0 u2.toNatClampNeg)) &&& 31)), ())
     )
    ) else none
   )
  ) else none
 ) else none
)
def f_X1_stop (u1 : Int32) (u2 : Int32) (mI : Nat → Int32) : Option ((Nat → Int32)) := (
 some ((upd (upd (upd mI 2 (1 : Int32)) 3 u1) 4 u2))
)
def f_X1_decide_b30 (y0 : Int32) (mI : Nat → Int32) (mJ : Nat → Int64) : Option (Int32 × (Nat → Int64)) := (
 if y0 = 0 then (
  if y0 = 0 ∨ y0 = 1 then some (y0, ((vp_updL mJ 3 ((mJ 3) ||| (mJ 1))))) else none
 ) else (
  if y0 = 0 ∨ y0 = 1 then some (y0, ((vp_updL (vp_updL mJ 3 ((mJ 3) ||| (mJ 1))) 4 (((vp_updL mJ 3 ((mJ 3) ||| (mJ 1))) 4) ||| ((vp_updL mJ 3 ((mJ 3) ||| (mJ 1))) 1))))) else none
 )
)
def f_X1_decide (u1 : Int32) (mI : Nat → Int32) (mJ : Nat → Int64) : Option (Int32 × (Nat → Int64)) := (
 if (mI 0) = 0 then (
  f_X1_decide_b30 u1 mI mJ
 ) else (
  if (lg_cmp ((mJ 0) &&& (mJ 1)) (0 : Int64)) = 0 then (
   f_X1_decide_b30 (0 : Int32) mI mJ
  ) else (
   f_X1_decide_b30 (1 : Int32) mI mJ
  )
 )
)
def f_X1_load_b33 (y1 : Int32) (y2 : Int32) (mI : Nat → Int32) (mJ : Nat → Int64) (mA : Nat → Nat → Int32) : Option ((Nat → Int32) × (Nat → Int64) × (Nat → Nat → Int32)) := (
 if inb y1 16 = true then (
  some (mI, mJ, (up2 mA 0 y1.toNatClampNeg y2))
 ) else none
)
def f_X1_load (u1 : Int32) (u2 : Int32) (mI : Nat → Int32) (mJ : Nat → Int64) (mA : Nat → Nat → Int32) : Option ((Nat → Int32) × (Nat → Int64) × (Nat → Nat → Int32)) := (
 (f_X4_isCell u2).bind fun (r2, _u2) => (
  (f_X1_decide r2 mI mJ).bind fun (r3, mJ3) => (
   if r3 = 0 then (
    (f_X1_stop (2 : Int32) (0 : Int32) mI).bind fun mI5 => (
     some (mI5, mJ3, mA)
    )
   ) else (
    (f_X4_isCell u2).bind fun (r6, _u6) => (
     if r6 = 0 then (
      f_X1_load_b33 u1 (0 : Int32) mI mJ3 mA
     ) else (
      if inb u2 8 = true then (
       f_X1_load_b33 u1 (mA 1 u2.toNatClampNeg) mI mJ3 mA
      ) else none
     )
    )
   )
  )
 )
)
def f_X1_store (u1 : Int32) (u2 : Int32) (mI : Nat → Int32) (mJ : Nat → Int64) (mA : Nat → Nat → Int32) : Option ((Nat → Int32) × (Nat → Int64) × (Nat → Nat → Int32)) := (
 (f_X4_isCell u1).bind fun (r1, _u1) => (
  (f_X1_decide r1 mI mJ).bind fun (r2, mJ2) => (
   if r2 = 0 then (
    (f_X1_stop (2 : Int32) (0 : Int32) mI).bind fun mI7 => (
     some (mI7, mJ2, mA)
    )
   ) else (
    (f_X4_isCell u1).bind fun (r4, _u4) => (
     if r4 = 0 then (
      some (mI, mJ2, mA)
     ) else (
      if inb u1 8 = true then (
       some (mI, mJ2, (up2 mA 1 u1.toNatClampNeg u2))
      ) else none
     )
    )
   )
  )
 )
)
def f_X1_stopUnlessTrue_b10 (y1 : Int32) (mI : Nat → Int32) (mJ : Nat → Int64) : Option ((Nat → Int32) × (Nat → Int64)) := (
 (f_X1_decide y1 mI mJ).bind fun (r1, mJ1) => (
  if r1 = 0 then (
   (f_X1_stop (3 : Int32) (0 : Int32) mI).bind fun mI3 => (
    some (mI3, mJ1)
   )
  ) else (
   some (mI, mJ1)
  )
 )
)
def f_X1_stopUnlessTrue (u1 : Int32) (mI : Nat → Int32) (mJ : Nat → Int64) : Option ((Nat → Int32) × (Nat → Int64)) := (
 if u1 = 0 then (
  f_X1_stopUnlessTrue_b10 (0 : Int32) mI mJ
 ) else (
  f_X1_stopUnlessTrue_b10 (1 : Int32) mI mJ
 )
)
def f_X1_calculate_b18 (x1 : Int32) (x2 : Int32) (x3 : Int32) (x4 : Int32) (y1 : Int32) (mI : Nat → Int32) (mJ : Nat → Int64) (mA : Nat → Nat → Int32) : Option ((Nat → Int32) × (Nat → Int64) × (Nat → Nat → Int32)) := (
 (f_X1_decide y1 mI mJ).bind fun (r1, mJ1) => (
  if r1 = 0 then (
   (f_X1_stop (1 : Int32) (0 : Int32) mI).bind fun mI3 => (
    some (mI3, mJ1, mA)
   )
  ) else (
   (f_X4_divide x1 x3 x4).bind fun (r4, _u4) => (
    if inb x2 16 = true then (
     some (mI, mJ1, (up2 mA 0 x2.toNatClampNeg r4))
    ) else none
   )
  )
 )
)
def f_X1_calculate (u1 : Int32) (u2 : Int32) (u3 : Int32) (u4 : Int32) (mI : Nat → Int32) (mJ : Nat → Int64) (mA : Nat → Nat → Int32) : Option ((Nat → Int32) × (Nat → Int64) × (Nat → Nat → Int32)) := (
 (f_X4_isDivision u1).bind fun (r6, _u6) => (
  if r6 = 0 then (
   if u1 = (24 : Int32) then (
    if u3 = 0 then (
     some (mI, mJ, mA)
    ) else (
     if inb u2 16 = true then (
      some (mI, mJ, (up2 mA 0 u2.toNatClampNeg u4))
     ) else none
    )
   ) else (
    (f_X4_combine u1 u3 u4).bind fun (r11, _u11) => (
     if inb u2 16 = true then (
      some (mI, mJ, (up2 mA 0 u2.toNatClampNeg r11))
     ) else none
    )
   )
  ) else (
   if u4 = 0 then (
    f_X1_calculate_b18 u1 u2 u3 u4 (0 : Int32) mI mJ mA
   ) else (
    f_X1_calculate_b18 u1 u2 u3 u4 (1 : Int32) mI mJ mA
   )
  )
 )
)
def f_X1_step_b400 (pI : Nat → Int32) (pA : Nat → Nat → Int32) (mI : Nat → Int32) (mJ : Nat → Int64) (mA : Nat → Nat → Int32) : Option (Int32 × (Nat → Int32) × (Nat → Int64) × (Nat → Nat → Int32)) := (
 some (((mI 1) + (1 : Int32)), (mI, mJ, mA))
)
def f_X1_step_b372 (x3 : Int32) (x4 : Int32) (x5 : Int32) (pI : Nat → Int32) (pA : Nat → Nat → Int32) (mI : Nat → Int32) (mJ : Nat → Int64) (mA : Nat → Nat → Int32) : Option (Int32 × (Nat → Int32) × (Nat → Int64) × (Nat → Nat → Int32)) := (
 if inb x5 16 = true then (
  if inb (mI 1) 60 = true then (
   if inb (pA 6 (mI 1).toNatClampNeg) 16 = true then (
    (f_X1_calculate x3 x4 (mA 0 x5.toNatClampNeg) (mA 0 (pA 6 (mI 1).toNatClampNeg).toNatClampNeg) mI mJ mA).bind fun (mI4, mJ4, mA4) => (
     f_X1_step_b400 pI pA mI4 mJ4 mA4
    )
   ) else none
  ) else none
 ) else none
)
def f_X1_step_b312 (x5 : Int32) (y1 : Int32) (pI : Nat → Int32) (pA : Nat → Nat → Int32) (mI : Nat → Int32) (mJ : Nat → Int64) (mA : Nat → Nat → Int32) : Option (Int32 × (Nat → Int32) × (Nat → Int64) × (Nat → Nat → Int32)) := (
 (f_X1_decide y1 mI mJ).bind fun (r5, mJ5) => (
  if r5 = 0 then (
   some (((mI 1) + (1 : Int32)), (mI, mJ5, mA))
  ) else (
   some (x5, (mI, mJ5, mA))
  )
 )
)
def f_X1_step (u2 : Int32) (pI : Nat → Int32) (pA : Nat → Nat → Int32) (mI : Nat → Int32) (mJ : Nat → Int64) (mA : Nat → Nat → Int32) : Option (Int32 × (Nat → Int32) × (Nat → Int64) × (Nat → Nat → Int32)) := (
 if inb (mI 1) 60 = true then (
  if inb (mI 1) 60 = true then (
   if inb (mI 1) 60 = true then (
    if (pA 3 (mI 1).toNatClampNeg) = (0 : Int32) then (
     if inb (pA 4 (mI 1).toNatClampNeg) 16 = true then (
      f_X1_step_b400 pI pA mI mJ (up2 mA 0 (pA 4 (mI 1).toNatClampNeg).toNatClampNeg (pA 5 (mI 1).toNatClampNeg))
     ) else none
    ) else (
     if (pA 3 (mI 1).toNatClampNeg) = (1 : Int32) then (
      (f_X3_inputIn u2 (pA 5 (mI 1).toNatClampNeg) pI pA).bind fun (r11, _u11) => (
       if inb (pA 4 (mI 1).toNatClampNeg) 16 = true then (
        f_X1_step_b400 pI pA mI mJ (up2 mA 0 (pA 4 (mI 1).toNatClampNeg).toNatClampNeg r11)
       ) else none
      )
     ) else (
      if (pA 3 (mI 1).toNatClampNeg) = (2 : Int32) then (
       if inb (pA 5 (mI 1).toNatClampNeg) 16 = true then (
        if inb (pA 4 (mI 1).toNatClampNeg) 16 = true then (
         f_X1_step_b400 pI pA mI mJ (up2 mA 0 (pA 4 (mI 1).toNatClampNeg).toNatClampNeg (mA 0 (pA 5 (mI 1).toNatClampNeg).toNatClampNeg))
        ) else none
       ) else none
      ) else (
       if (pA 3 (mI 1).toNatClampNeg) = (22 : Int32) then (
        if inb (pA 5 (mI 1).toNatClampNeg) 16 = true then (
         if inb (pA 4 (mI 1).toNatClampNeg) 16 = true then (
          f_X1_step_b400 pI pA mI mJ (up2 mA 0 (pA 4 (mI 1).toNatClampNeg).toNatClampNeg ((mA 0 (pA 5 (mI 1).toNatClampNeg).toNatClampNeg) ^^^ (-1 : Int32)))
         ) else none
        ) else none
       ) else (
        if (pA 3 (mI 1).toNatClampNeg) = (23 : Int32) then (
         if inb (pA 5 (mI 1).toNatClampNeg) 16 = true then (
          if inb (pA 4 (mI 1).toNatClampNeg) 16 = true then (
           f_X1_step_b400 pI pA mI mJ (up2 mA 0 (pA 4 (mI 1).toNatClampNeg).toNatClampNeg (-(mA 0 (pA 5 (mI 1).toNatClampNeg).toNatClampNeg)))
          ) else none
         ) else none
        ) else (
         if (pA 3 (mI 1).toNatClampNeg) = (25 : Int32) then (
          if inb (pA 5 (mI 1).toNatClampNeg) 16 = true then (
           (f_X1_load (pA 4 (mI 1).toNatClampNeg) (mA 0 (pA 5 (mI 1).toNatClampNeg).toNatClampNeg) mI mJ mA).bind fun (mI20, mJ20, mA20) => (
            f_X1_step_b400 pI pA mI20 mJ20 mA20
           )
          ) else none
         ) else (
          if (pA 3 (mI 1).toNatClampNeg) = (26 : Int32) then (
           if inb (pA 4 (mI 1).toNatClampNeg) 16 = true then (
            if inb (pA 5 (mI 1).toNatClampNeg) 16 = true then (
             (f_X1_store (mA 0 (pA 4 (mI 1).toNatClampNeg).toNatClampNeg) (mA 0 (pA 5 (mI 1).toNatClampNeg).toNatClampNeg) mI mJ mA).bind fun (mI23, mJ23, mA23) => (
              f_X1_step_b400 pI pA mI23 mJ23 mA23
             )
            ) else none
           ) else none
          ) else (
           if (pA 3 (mI 1).toNatClampNeg) = (27 : Int32) then (
            if inb (pA 4 (mI 1).toNatClampNeg) 16 = true then (
             if (mA 0 (pA 4 (mI 1).toNatClampNeg).toNatClampNeg) = 0 then (
              f_X1_step_b312 (pA 5 (mI 1).toNatClampNeg) (0 : Int32) pI pA mI mJ mA
             ) else (
              f_X1_step_b312 (pA 5 (mI 1).toNatClampNeg) (1 : Int32) pI pA mI mJ mA
             )
            ) else none
           ) else (
            if (pA 3 (mI 1).toNatClampNeg) = (28 : Int32) then (
             some ((pA 4 (mI 1).toNatClampNeg), (mI, mJ, mA))
            ) else (
             if (pA 3 (mI 1).toNatClampNeg) = (29 : Int32) then (
              if inb (pA 4 (mI 1).toNatClampNeg) 16 = true then (
               (f_X1_stopUnlessTrue (mA 0 (pA 4 (mI 1).toNatClampNeg).toNatClampNeg) mI mJ).bind fun (mI27, mJ27) => (
                f_X1_step_b400 pI pA mI27 mJ27 mA
               )
              ) else none
             ) else (
              if (pA 3 (mI 1).toNatClampNeg) = (30 : Int32) then (
               (f_X1_stop (4 : Int32) (pA 4 (mI 1).toNatClampNeg) mI).bind fun mI28 => (
                f_X1_step_b400 pI pA mI28 mJ mA
               )
              ) else (
               if (pA 3 (mI 1).toNatClampNeg) = (31 : Int32) then (
                if inb (pA 4 (mI 1).toNatClampNeg) 16 = true then (
                 (f_X1_stop (0 : Int32) (mA 0 (pA 4 (mI 1).toNatClampNeg).toNatClampNeg) mI).bind fun mI30 => (
                  f_X1_step_b400 pI pA mI30 mJ mA
                 )
                ) else none
               ) else (
                f_X1_step_b372 (pA 3 (mI 1).toNatClampNeg) (pA 4 (mI 1).toNatClampNeg) (pA 5 (mI 1).toNatClampNeg) pI pA mI mJ mA
               )
              )
             )
            )
           )
          )
         )
        )
       )
      )
     )
    )
   ) else none
  ) else none
 ) else none
)
def f_X1_begin0_b42 (n : Nat) (y1 : Int64) (mI : Nat → Int32) (mJ : Nat → Int64) (mA : Nat → Nat → Int32) : Option ((Nat → Int32) × (Nat → Int64) × (Nat → Nat → Int32)) := (
 some ((upd mI 2 (0 : Int32)), (vp_updL (vp_updL (vp_updL (vp_updL mJ 0 y1) 2 (0 : Int64)) 3 (0 : Int64)) 4 (0 : Int64)), mA)
)
def f_X1_begin0_b26 (n : Nat) (y1 : Int32) (mI : Nat → Int32) (mJ : Nat → Int64) (mA : Nat → Nat → Int32) : Option ((Nat → Int32) × (Nat → Int64) × (Nat → Nat → Int32)) := (
 if y1 = 0 ∨ y1 = 1 then (
  f_X1_begin0_b42 n (0 : Int64) (upd mI 0 y1) mJ mA
 ) else none
)
def f_X1_begin0 (n : Nat) (mI : Nat → Int32) (mJ : Nat → Int64) (mA : Nat → Nat → Int32) : Option ((Nat → Int32) × (Nat → Int64) × (Nat → Nat → Int32)) := (
 (f_J7_fill_53178 n 16 (0 : Int32) (mA 0)).bind fun xA2 => (
  (f_J7_fill_53178 n 8 (0 : Int32) ((va_up mA 0 xA2) 1)).bind fun xA3 => (
   f_X1_begin0_b26 n (0 : Int32) mI mJ (va_up (va_up mA 0 xA2) 1 xA3)
  )
 )
)
def f_X1_begin1_b42 (n : Nat) (L : List Nat) (y1 : Int64) (mI : Nat → Int32) (mJ : Nat → Int64) (mA : Nat → Nat → Int32) (qJ : Nat → Nat → Int64) : Option ((Nat → Int32) × (Nat → Int64) × (Nat → Nat → Int32)) := (
 some ((upd mI 2 (0 : Int32)), (vp_updL (vp_updL (vp_updL (vp_updL mJ 0 y1) 2 (0 : Int64)) 3 (0 : Int64)) 4 (0 : Int64)), mA)
)
def f_X1_begin1_b26 (n : Nat) (L : List Nat) (x1 : Nat) (y1 : Int32) (mI : Nat → Int32) (mJ : Nat → Int64) (mA : Nat → Nat → Int32) (qJ : Nat → Nat → Int64) : Option ((Nat → Int32) × (Nat → Int64) × (Nat → Nat → Int32)) := (
 if y1 = 0 ∨ y1 = 1 then (
  if x1 ∈ L then (
   f_X1_begin1_b42 n L (qJ x1 1) (upd mI 0 y1) mJ mA qJ
  ) else none
 ) else none
)
def f_X1_begin1 (n : Nat) (L : List Nat) (u1 : Nat) (mI : Nat → Int32) (mJ : Nat → Int64) (mA : Nat → Nat → Int32) (qJ : Nat → Nat → Int64) : Option ((Nat → Int32) × (Nat → Int64) × (Nat → Nat → Int32)) := (
 (f_J7_fill_53178 n 16 (0 : Int32) (mA 0)).bind fun xA4 => (
  (f_J7_fill_53178 n 8 (0 : Int32) ((va_up mA 0 xA4) 1)).bind fun xA5 => (
   f_X1_begin1_b26 n L u1 (1 : Int32) mI mJ (va_up (va_up mA 0 xA4) 1 xA5) qJ
  )
 )
)
def f_X1_execute0_b78 (n : Nat) (pI : Nat → Int32) (pA : Nat → Nat → Int32) (mI : Nat → Int32) (mJ : Nat → Int64) (mA : Nat → Nat → Int32) : Option ((Nat → Int32) × (Nat → Int64) × (Nat → Nat → Int32)) := (
 if (mI 2) = 0 then (
  (f_X1_stop (0 : Int32) (0 : Int32) (upd mI 1 (pI 2))).bind fun mI2 => (
   some (mI2, mJ, mA)
  )
 ) else (
  some (mI, mJ, mA)
 )
)
def f_X1_execute0_l11 (n : Nat) (x2 : Int32) (pI : Nat → Int32) (pA : Nat → Nat → Int32) (rc11 : (Int32 × Int32 × (Nat → Int32) × (Nat → Int64) × (Nat → Nat → Int32)) → Option ((Nat → Int32) × (Nat → Int64) × (Nat → Nat → Int32))) : (Int32 × Int32 × (Nat → Int32) × (Nat → Int64) × (Nat → Nat → Int32)) → Option ((Nat → Int32) × (Nat → Int64) × (Nat → Nat → Int32)) := fun (x4, x5, mI, mJ, mA) => (
 if (60 : Int32) ≤ x5 then (
  f_X1_execute0_b78 n pI pA mI mJ mA
 ) else (
  if (pI 2) ≤ x4 then (
   f_X1_execute0_b78 n pI pA mI mJ mA
  ) else (
   if (mI 2) = 0 then (
    (f_X4_mark ((upd mI 1 x4) 1)).bind fun (r6, _u6) => (
     (f_X1_step x2 pI pA (upd mI 1 x4) (vp_updL (vp_updL mJ 1 r6) 2 (((vp_updL mJ 1 r6) 2) ||| ((vp_updL mJ 1 r6) 1))) mA).bind fun (r7, mI7, mJ7, mA7) => (
      rc11 (r7, (x5 + 1), mI7, mJ7, mA7)
     )
    )
   ) else (
    f_X1_execute0_b78 n pI pA mI mJ mA
   )
  )
 )
)
def f_X1_execute0 (n : Nat) (u2 : Int32) (pI : Nat → Int32) (pA : Nat → Nat → Int32) (mI : Nat → Int32) (mJ : Nat → Int64) (mA : Nat → Nat → Int32) : Option ((Nat → Int32) × (Nat → Int64) × (Nat → Nat → Int32)) := (
 (f_X1_begin0 n mI mJ mA).bind fun (mI8, mJ8, mA8) => (
  lp (f_X1_execute0_l11 n u2 pI pA) n ((0 : Int32), (0 : Int32), mI8, mJ8, mA8)
 )
)
def f_X1_execute1_b78 (n : Nat) (L : List Nat) (pI : Nat → Int32) (pA : Nat → Nat → Int32) (mI : Nat → Int32) (mJ : Nat → Int64) (mA : Nat → Nat → Int32) (qJ : Nat → Nat → Int64) : Option ((Nat → Int32) × (Nat → Int64) × (Nat → Nat → Int32)) := (
 if (mI 2) = 0 then (
  (f_X1_stop (0 : Int32) (0 : Int32) (upd mI 1 (pI 2))).bind fun mI2 => (
   some (mI2, mJ, mA)
  )
 ) else (
  some (mI, mJ, mA)
 )
)
def f_X1_execute1_l11 (n : Nat) (L : List Nat) (x2 : Int32) (pI : Nat → Int32) (pA : Nat → Nat → Int32) (qJ : Nat → Nat → Int64) (rc11 : (Int32 × Int32 × (Nat → Int32) × (Nat → Int64) × (Nat → Nat → Int32)) → Option ((Nat → Int32) × (Nat → Int64) × (Nat → Nat → Int32))) : (Int32 × Int32 × (Nat → Int32) × (Nat → Int64) × (Nat → Nat → Int32)) → Option ((Nat → Int32) × (Nat → Int64) × (Nat → Nat → Int32)) := fun (x4, x5, mI, mJ, mA) => (
 if (60 : Int32) ≤ x5 then (
  f_X1_execute1_b78 n L pI pA mI mJ mA qJ
 ) else (
  if (pI 2) ≤ x4 then (
   f_X1_execute1_b78 n L pI pA mI mJ mA qJ
  ) else (
   if (mI 2) = 0 then (
    (f_X4_mark ((upd mI 1 x4) 1)).bind fun (r6, _u6) => (
     (f_X1_step x2 pI pA (upd mI 1 x4) (vp_updL (vp_updL mJ 1 r6) 2 (((vp_updL mJ 1 r6) 2) ||| ((vp_updL mJ 1 r6) 1))) mA).bind fun (r7, mI7, mJ7, mA7) => (
      rc11 (r7, (x5 + 1), mI7, mJ7, mA7)
     )
    )
   ) else (
    f_X1_execute1_b78 n L pI pA mI mJ mA qJ
   )
  )
 )
)
def f_X1_execute1 (n : Nat) (L : List Nat) (u2 : Int32) (u3 : Nat) (pI : Nat → Int32) (pA : Nat → Nat → Int32) (mI : Nat → Int32) (mJ : Nat → Int64) (mA : Nat → Nat → Int32) (qJ : Nat → Nat → Int64) : Option ((Nat → Int32) × (Nat → Int64) × (Nat → Nat → Int32)) := (
 (f_X1_begin1 n L u3 mI mJ mA qJ).bind fun (mI8, mJ8, mA8) => (
  lp (f_X1_execute1_l11 n L u2 pI pA qJ) n ((0 : Int32), (0 : Int32), mI8, mJ8, mA8)
 )
)
def f_X2_take (L : List Nat) (u0 : Nat) (u2 : Int32) (mI : Nat → Int32) (mJ : Nat → Int64) (qI : Nat → Nat → Int32) (qJ : Nat → Nat → Int64) : Option ((Nat → Nat → Int32) × (Nat → Nat → Int64)) := (
 if u0 ∈ L then (
  some ((up2 (up2 (up2 (up2 (up2 qI u0 0 (mI 3)) u0 1 (mI 1)) u0 2 u2) u0 3 (mI 4)) u0 4 (1 : Int32)), (up2J (up2J qJ u0 0 (mJ 3)) u0 1 (mJ 4)))
 ) else none
)
def f_X0_forget (tI : Nat → Int32) (tJ : Nat → Int64) : Option ((Nat → Int32) × (Nat → Int64)) := (
 some ((upd tI 0 (0 : Int32)), (vp_updL (vp_updL tJ 0 (0 : Int64)) 1 (0 : Int64)))
)
def f_X0_isKnown (tI : Nat → Int32) : Option (Int32 × Unit) := (
 if (tI 0) ≤ 0 then (
  some ((0 : Int32), ())
 ) else (
  some ((1 : Int32), ())
 )
)
def f_X0_knownOrNone (u1 : Int32) (tI : Nat → Int32) : Option (Int32 × Unit) := (
 (f_X0_isKnown tI).bind fun (r1, _u1) => (
  if r1 = 0 then (
   some ((-1 : Int32), ())
  ) else (
   some (u1, ())
  )
 )
)
def f_X0_isWanted (u0 : Int32) (u1 : Int32) (u2 : Int32) : Option (Int32 × Unit) := (
 if u1 = (0 : Int32) then (
  if u0 = u2 then (
   some ((1 : Int32), ())
  ) else (
   some ((0 : Int32), ())
  )
 ) else (
  if u1 = (1 : Int32) then (
   if u0 = u2 then (
    some ((0 : Int32), ())
   ) else (
    some ((1 : Int32), ())
   )
  ) else (
   if u1 = (2 : Int32) then (
    (f_X4_isBelowUnsigned u0 u2).bind fun (r3, _u3) => (
     if r3 = 0 ∨ r3 = 1 then some (r3, ()) else none
    )
   ) else (
    if u1 = (3 : Int32) then (
     if u2 ≤ u0 then (
      some ((0 : Int32), ())
     ) else (
      some ((1 : Int32), ())
     )
    ) else (
     some ((0 : Int32), ())
    )
   )
  )
 )
)
def f_X0_pathAt (L : List Nat) (u1 : Int32) (tI : Nat → Int32) (tP : Nat → Option Nat) : Option (Option Nat × Unit) := (
 if u1 < 0 then (
  some (none, ())
 ) else (
  if (tI 0) ≤ u1 then (
   some (none, ())
  ) else (
   if inb u1 40 = true then (
    (tP u1.toNatClampNeg).bind fun a4 => (
     if a4 ∈ L then (
      some ((some a4), ())
     ) else none
    )
   ) else none
  )
 )
)
def f_X0_firstNotAheadOf_b32 (n : Nat) (L : List Nat) (tI : Nat → Int32) (tP : Nat → Option Nat) (qJ : Nat → Nat → Int64) : Option (Int32 × Unit) := (
 some ((tI 0), ())
)
def f_X0_firstNotAheadOf_l2 (n : Nat) (L : List Nat) (x1 : Int64) (tI : Nat → Int32) (tP : Nat → Option Nat) (qJ : Nat → Nat → Int64) (rc2 : (Int32) → Option (Int32 × Unit)) : (Int32) → Option (Int32 × Unit) := fun x3 => (
 if (tI 0) ≤ x3 then (
  f_X0_firstNotAheadOf_b32 n L tI tP qJ
 ) else (
  if inb x3 40 = true then (
   (tP x3.toNatClampNeg).bind fun a3 => (
    if a3 ∈ L then (
     if 0 < (lg_cmp (qJ a3 1) x1) then (
      rc2 ((x3 + 1))
     ) else (
      some (x3, ())
     )
    ) else none
   )
  ) else none
 )
)
def f_X0_firstNotAheadOf (n : Nat) (L : List Nat) (u1 : Int64) (tI : Nat → Int32) (tP : Nat → Option Nat) (qJ : Nat → Nat → Int64) : Option (Int32 × Unit) := (
 lp (f_X0_firstNotAheadOf_l2 n L u1 tI tP qJ) n ((0 : Int32))
)
def f_X0_insertAt_b40 (n : Nat) (L : List Nat) (x1 : Int32) (x2 : Nat) (tI : Nat → Int32) (tP : Nat → Option Nat) : Option (Option Nat × (Nat → Int32) × (Nat → Option Nat)) := (
 if inb x1 40 = true then (
  if x2 ∈ L then (
   some ((some x2), ((upd tI 0 ((tI 0) + (1 : Int32))), (va_up tP x1.toNatClampNeg (some x2))))
  ) else none
 ) else none
)
def f_X0_insertAt_l15 (n : Nat) (L : List Nat) (x1 : Int32) (x2 : Nat) (tI : Nat → Int32) (rc15 : (Int32 × (Nat → Option Nat)) → Option (Option Nat × (Nat → Int32) × (Nat → Option Nat))) : (Int32 × (Nat → Option Nat)) → Option (Option Nat × (Nat → Int32) × (Nat → Option Nat)) := fun (x3, tP) => (
 if x3 ≤ x1 then (
  f_X0_insertAt_b40 n L x1 x2 tI tP
 ) else (
  if inb (x3 - (1 : Int32)) 40 = true then (
   (tP (x3 - (1 : Int32)).toNatClampNeg).bind fun a6 => (
    if a6 ∈ L then (
     if inb x3 40 = true then (
      rc15 ((x3 + (-1)), (va_up tP x3.toNatClampNeg (some a6)))
     ) else none
    ) else none
   )
  ) else none
 )
)
def f_X0_insertAt (n : Nat) (L : List Nat) (u1 : Int32) (tI : Nat → Int32) (tP : Nat → Option Nat) : Option (Option Nat × (Nat → Int32) × (Nat → Option Nat)) := (
 if inb (tI 0) 40 = true then (
  (tP (tI 0).toNatClampNeg).bind fun a12 => (
   if a12 ∈ L then (
    lp (f_X0_insertAt_l15 n L u1 a12 tI) n ((tI 0), tP)
   ) else none
  )
 ) else none
)
def f_X0_numberOf (n : Nat) (L : List Nat) (u1 : Int64) (tI : Nat → Int32) (tP : Nat → Option Nat) (qJ : Nat → Nat → Int64) : Option (Int32 × Unit) := (
 (f_X0_firstNotAheadOf n L u1 tI tP qJ).bind fun (r1, _u1) => (
  if (tI 0) ≤ r1 then (
   some ((-1 : Int32), ())
  ) else (
   if inb r1 40 = true then (
    (tP r1.toNatClampNeg).bind fun a4 => (
     if a4 ∈ L then (
      if (lg_cmp (qJ a4 1) u1) = 0 then (
       some (r1, ())
      ) else (
       some ((-1 : Int32), ())
      )
     ) else none
    )
   ) else none
  )
 )
)
def f_X0_goes (L : List Nat) (u1 : Nat) (u2 : Int32) (tO : Nat → Int64) (qJ : Nat → Nat → Int64) : Option (Int32 × Unit) := (
 if inb u2 4096 = true then (
  if u1 ∈ L then (
   if (lg_cmp (tO u2.toNatClampNeg) (qJ u1 1)) = 0 then (
    some ((1 : Int32), ())
   ) else (
    some ((0 : Int32), ())
   )
  ) else none
 ) else none
)
def f_X0_leastWordWith_b41 (n : Nat) (L : List Nat) (rc6 : (Int32) → Option (Int32 × Unit)) (x1 : Nat) (x2 : Int32) (x3 : Int32) (x4 : Int32) (x5 : Int32) (tO : Nat → Int64) (tR : Nat → Int32) (qI : Nat → Nat → Int32) (qJ : Nat → Nat → Int64) : Option (Int32 × Unit) := (
 rc6 ((x5 + 1))
)
def f_X0_leastWordWith_l6 (n : Nat) (L : List Nat) (x1 : Nat) (x2 : Int32) (x3 : Int32) (x4 : Int32) (tO : Nat → Int64) (tR : Nat → Int32) (qI : Nat → Nat → Int32) (qJ : Nat → Nat → Int64) (rc6 : (Int32) → Option (Int32 × Unit)) : (Int32) → Option (Int32 × Unit) := fun x5 => (
 if x4 ≤ x5 then (
  some ((-1 : Int32), ())
 ) else (
  (f_X0_goes L x1 x5 tO qJ).bind fun (r2, _u2) => (
   if r2 = 0 then (
    f_X0_leastWordWith_b41 n L rc6 x1 x2 x3 x4 x5 tO tR qI qJ
   ) else (
    if inb x5 4096 = true then (
     (f_X0_isWanted (tR x5.toNatClampNeg) x2 x3).bind fun (r5, _u5) => (
      if r5 = 0 then (
       f_X0_leastWordWith_b41 n L rc6 x1 x2 x3 x4 x5 tO tR qI qJ
      ) else (
       some (x5, ())
      )
     )
    ) else none
   )
  )
 )
)
def f_X0_leastWordWith (n : Nat) (L : List Nat) (u1 : Nat) (u2 : Int32) (u3 : Int32) (u4 : Int32) (tO : Nat → Int64) (tR : Nat → Int32) (qI : Nat → Nat → Int32) (qJ : Nat → Nat → Int64) : Option (Int32 × Unit) := (
 if u1 ∈ L then (
  lp (f_X0_leastWordWith_l6 n L u1 u2 u3 u4 tO tR qI qJ) n ((qI u1 2))
 ) else none
)
def f_X0_firstFailing_b80 (n : Nat) (L : List Nat) (rc14 : ((Option Nat) × Int32) → Option (Option Nat × Unit)) (x2 : Int32) (x3 : Option Nat) (x4 : Int32) (tI : Nat → Int32) (tJ : Nat → Int64) (tP : Nat → Option Nat) (qI : Nat → Nat → Int32) : Option (Option Nat × Unit) := (
 match x3 with
 | none => (
  rc14 (none, (x4 + 1))
 )
 | some a3 => (
  rc14 ((some a3), (x4 + 1))
 )
)
def f_X0_firstFailing_b77 (n : Nat) (L : List Nat) (rc14 : ((Option Nat) × Int32) → Option (Option Nat × Unit)) (x2 : Int32) (x4 : Int32) (x5 : Nat) (tI : Nat → Int32) (tJ : Nat → Int64) (tP : Nat → Option Nat) (qI : Nat → Nat → Int32) : Option (Option Nat × Unit) := (
 f_X0_firstFailing_b80 n L rc14 x2 (some x5) x4 tI tJ tP qI
)
def f_X0_firstFailing_b54 (n : Nat) (L : List Nat) (rc14 : ((Option Nat) × Int32) → Option (Option Nat × Unit)) (x2 : Int32) (x3 : Option Nat) (x4 : Int32) (x5 : Nat) (y0 : Int32) (tI : Nat → Int32) (tJ : Nat → Int64) (tP : Nat → Option Nat) (qI : Nat → Nat → Int32) : Option (Option Nat × Unit) := (
 match x3 with
 | none => (
  if y0 = 0 then (
   f_X0_firstFailing_b80 n L rc14 x2 none x4 tI tJ tP qI
  ) else (
   f_X0_firstFailing_b77 n L rc14 x2 x4 x5 tI tJ tP qI
  )
 )
 | some a3 => (
  if y0 = 0 then (
   f_X0_firstFailing_b80 n L rc14 x2 (some a3) x4 tI tJ tP qI
  ) else (
   if x5 ∈ L then (
    if a3 ∈ L then (
     if (qI a3 2) ≤ (qI x5 2) then (
      f_X0_firstFailing_b80 n L rc14 x2 (some a3) x4 tI tJ tP qI
     ) else (
      f_X0_firstFailing_b77 n L rc14 x2 x4 x5 tI tJ tP qI
     )
    ) else none
   ) else none
  )
 )
)
def f_X0_firstFailing_b53 (n : Nat) (L : List Nat) (rc14 : ((Option Nat) × Int32) → Option (Option Nat × Unit)) (x2 : Int32) (x3 : Option Nat) (x4 : Int32) (x5 : Nat) (tI : Nat → Int32) (tJ : Nat → Int64) (tP : Nat → Option Nat) (qI : Nat → Nat → Int32) : Option (Option Nat × Unit) := (
 match x3 with
 | none => (
  f_X0_firstFailing_b54 n L rc14 x2 none x4 x5 (0 : Int32) tI tJ tP qI
 )
 | some a3 => (
  f_X0_firstFailing_b54 n L rc14 x2 (some a3) x4 x5 (0 : Int32) tI tJ tP qI
 )
)
def f_X0_firstFailing_l14 (n : Nat) (L : List Nat) (x2 : Int32) (tI : Nat → Int32) (tJ : Nat → Int64) (tP : Nat → Option Nat) (qI : Nat → Nat → Int32) (rc14 : ((Option Nat) × Int32) → Option (Option Nat × Unit)) : ((Option Nat) × Int32) → Option (Option Nat × Unit) := fun (x3, x4) => (
 match x3 with
 | none => (
  if (tI 0) ≤ x4 then (
   some (none, ())
  ) else (
   if inb x4 40 = true then (
    (tP x4.toNatClampNeg).bind fun a10 => (
     if a10 ∈ L then (
      if (qI a10 0) = 0 then (
       f_X0_firstFailing_b53 n L rc14 x2 none x4 a10 tI tJ tP qI
      ) else (
       if (qI a10 1) = x2 then (
        f_X0_firstFailing_b54 n L rc14 x2 none x4 a10 (1 : Int32) tI tJ tP qI
       ) else (
        f_X0_firstFailing_b53 n L rc14 x2 none x4 a10 tI tJ tP qI
       )
      )
     ) else none
    )
   ) else none
  )
 )
 | some a3 => (
  if (tI 0) ≤ x4 then (
   some ((some a3), ())
  ) else (
   if inb x4 40 = true then (
    (tP x4.toNatClampNeg).bind fun a19 => (
     if a19 ∈ L then (
      if (qI a19 0) = 0 then (
       f_X0_firstFailing_b53 n L rc14 x2 (some a3) x4 a19 tI tJ tP qI
      ) else (
       if (qI a19 1) = x2 then (
        f_X0_firstFailing_b54 n L rc14 x2 (some a3) x4 a19 (1 : Int32) tI tJ tP qI
       ) else (
        f_X0_firstFailing_b53 n L rc14 x2 (some a3) x4 a19 tI tJ tP qI
       )
      )
     ) else none
    )
   ) else none
  )
 )
)
def f_X0_firstFailing (n : Nat) (L : List Nat) (u1 : Int32) (tI : Nat → Int32) (tJ : Nat → Int64) (tP : Nat → Option Nat) (qI : Nat → Nat → Int32) : Option (Option Nat × Unit) := (
 (f_X4_placeOfMark n (tJ 1) u1).bind fun (r26, _u26) => (
  lp (f_X0_firstFailing_l14 n L r26 tI tJ tP qI) n (none, (0 : Int32))
 )
)
def f_X0_enter_b136 (n : Nat) (L : List Nat) (x2 : Int32) (tI : Nat → Int32) (tJ : Nat → Int64) (tP : Nat → Option Nat) (tO : Nat → Int64) (tR : Nat → Int32) (mI : Nat → Int32) (mJ : Nat → Int64) (qI : Nat → Nat → Int32) (qJ : Nat → Nat → Int64) : Option (Int32 × (Nat → Int32) × (Nat → Int64) × (Nat → Option Nat) × (Nat → Int64) × (Nat → Int32) × (Nat → Nat → Int32) × (Nat → Nat → Int64)) := (
 if inb x2 4096 = true then (
  if inb x2 4096 = true then (
   some ((1 : Int32), (tI, tJ, tP, (vp_updL tO x2.toNatClampNeg (mJ 4)), (upd tR x2.toNatClampNeg (mI 4)), qI, qJ))
  ) else none
 ) else none
)
def f_X0_enter_b127 (n : Nat) (L : List Nat) (x2 : Int32) (y1 : Int64) (y2 : Int64) (tI : Nat → Int32) (tJ : Nat → Int64) (tP : Nat → Option Nat) (tO : Nat → Int64) (tR : Nat → Int32) (mI : Nat → Int32) (mJ : Nat → Int64) (qI : Nat → Nat → Int32) (qJ : Nat → Nat → Int64) : Option (Int32 × (Nat → Int32) × (Nat → Int64) × (Nat → Option Nat) × (Nat → Int64) × (Nat → Int32) × (Nat → Nat → Int32) × (Nat → Nat → Int64)) := (
 f_X0_enter_b136 n L x2 tI (vp_updL tJ 1 (y1 ||| y2)) tP tO tR mI mJ qI qJ
)
def f_X0_enter_b72 (n : Nat) (L : List Nat) (x2 : Int32) (x3 : Int32) (tI : Nat → Int32) (tJ : Nat → Int64) (tP : Nat → Option Nat) (tO : Nat → Int64) (tR : Nat → Int32) (mI : Nat → Int32) (mJ : Nat → Int64) (qI : Nat → Nat → Int32) (qJ : Nat → Nat → Int64) : Option (Int32 × (Nat → Int32) × (Nat → Int64) × (Nat → Option Nat) × (Nat → Int64) × (Nat → Int32) × (Nat → Nat → Int32) × (Nat → Nat → Int64)) := (
 if (40 : Int32) ≤ (tI 0) then (
  some ((0 : Int32), (tI, tJ, tP, tO, tR, qI, qJ))
 ) else (
  (f_X0_insertAt n L x3 tI tP).bind fun (r4, tI4, tP4) => (
   match r4 with
   | none => (
    none
   )
   | some a5 => (
    if a5 ∈ L then (
     (f_X2_take L a5 x2 mI mJ qI qJ).bind fun (qI7, qJ7) => (
      if (mI 3) = 0 then (
       f_X0_enter_b127 n L x2 ((vp_updL tJ 0 ((tJ 0) ||| (mJ 2))) 1) (0 : Int64) tI4 (vp_updL tJ 0 ((tJ 0) ||| (mJ 2))) tP4 tO tR mI mJ qI7 qJ7
      ) else (
       (f_X4_mark (mI 1)).bind fun (r10, _u10) => (
        f_X0_enter_b127 n L x2 ((vp_updL tJ 0 ((tJ 0) ||| (mJ 2))) 1) r10 tI4 (vp_updL tJ 0 ((tJ 0) ||| (mJ 2))) tP4 tO tR mI mJ qI7 qJ7
       )
      )
     )
    ) else none
   )
  )
 )
)
def f_X0_enter_b65 (n : Nat) (L : List Nat) (x2 : Int32) (y0 : Nat) (y1 : Int32) (y2 : Int32) (tI : Nat → Int32) (tJ : Nat → Int64) (tP : Nat → Option Nat) (tO : Nat → Int64) (tR : Nat → Int32) (mI : Nat → Int32) (mJ : Nat → Int64) (qI : Nat → Nat → Int32) (qJ : Nat → Nat → Int64) : Option (Int32 × (Nat → Int32) × (Nat → Int64) × (Nat → Option Nat) × (Nat → Int64) × (Nat → Int32) × (Nat → Nat → Int32) × (Nat → Nat → Int64)) := (
 if (y1 &&& y2) = 0 ∨ (y1 &&& y2) = 1 then (
  if y0 ∈ L then (
   f_X0_enter_b136 n L x2 tI tJ tP tO tR mI mJ (up2 qI y0 4 (y1 &&& y2)) qJ
  ) else none
 ) else none
)
def f_X0_enter (n : Nat) (L : List Nat) (u2 : Int32) (tI : Nat → Int32) (tJ : Nat → Int64) (tP : Nat → Option Nat) (tO : Nat → Int64) (tR : Nat → Int32) (mI : Nat → Int32) (mJ : Nat → Int64) (qI : Nat → Nat → Int32) (qJ : Nat → Nat → Int64) : Option (Int32 × (Nat → Int32) × (Nat → Int64) × (Nat → Option Nat) × (Nat → Int64) × (Nat → Int32) × (Nat → Nat → Int32) × (Nat → Nat → Int64)) := (
 (f_X0_firstNotAheadOf n L (mJ 4) tI tP qJ).bind fun (r14, _u14) => (
  if (tI 0) ≤ r14 then (
   f_X0_enter_b72 n L u2 r14 tI tJ tP tO tR mI mJ qI qJ
  ) else (
   if inb r14 40 = true then (
    (tP r14.toNatClampNeg).bind fun a17 => (
     if a17 ∈ L then (
      if (lg_cmp (qJ a17 1) (mJ 4)) = 0 then (
       if inb r14 40 = true then (
        (tP r14.toNatClampNeg).bind fun a23 => (
         if a23 ∈ L then (
          if inb r14 40 = true then (
           (tP r14.toNatClampNeg).bind fun a28 => (
            if a28 ∈ L then (
             if (qI a28 3) = (mI 4) then (
              f_X0_enter_b65 n L u2 a23 (qI a23 4) (1 : Int32) tI tJ tP tO tR mI mJ qI qJ
             ) else (
              f_X0_enter_b65 n L u2 a23 (qI a23 4) (0 : Int32) tI tJ tP tO tR mI mJ qI qJ
             )
            ) else none
           )
          ) else none
         ) else none
        )
       ) else none
      ) else (
       f_X0_enter_b72 n L u2 r14 tI tJ tP tO tR mI mJ qI qJ
      )
     ) else none
    )
   ) else none
  )
 )
)
def f_X0_survey_b36 (n : Nat) (L : List Nat) (pI : Nat → Int32) (pA : Nat → Nat → Int32) (tI : Nat → Int32) (tJ : Nat → Int64) (tP : Nat → Option Nat) (tO : Nat → Int64) (tR : Nat → Int32) (mI : Nat → Int32) (mJ : Nat → Int64) (mA : Nat → Nat → Int32) (qI : Nat → Nat → Int32) (qJ : Nat → Nat → Int64) : Option ((Nat → Int32) × (Nat → Int64) × (Nat → Option Nat) × (Nat → Int64) × (Nat → Int32) × (Nat → Int32) × (Nat → Int64) × (Nat → Nat → Int32) × (Nat → Nat → Int32) × (Nat → Nat → Int64)) := (
 (f_X0_forget tI tJ).bind fun (tI1, tJ1) => (
  some (tI1, tJ1, tP, tO, tR, mI, mJ, mA, qI, qJ)
 )
)
def f_X0_survey_l12 (n : Nat) (L : List Nat) (x3 : Int32) (pI : Nat → Int32) (pA : Nat → Nat → Int32) (rc12 : (Int32 × (Nat → Int32) × (Nat → Int64) × (Nat → Option Nat) × (Nat → Int64) × (Nat → Int32) × (Nat → Int32) × (Nat → Int64) × (Nat → Nat → Int32) × (Nat → Nat → Int32) × (Nat → Nat → Int64)) → Option ((Nat → Int32) × (Nat → Int64) × (Nat → Option Nat) × (Nat → Int64) × (Nat → Int32) × (Nat → Int32) × (Nat → Int64) × (Nat → Nat → Int32) × (Nat → Nat → Int32) × (Nat → Nat → Int64))) : (Int32 × (Nat → Int32) × (Nat → Int64) × (Nat → Option Nat) × (Nat → Int64) × (Nat → Int32) × (Nat → Int32) × (Nat → Int64) × (Nat → Nat → Int32) × (Nat → Nat → Int32) × (Nat → Nat → Int64)) → Option ((Nat → Int32) × (Nat → Int64) × (Nat → Option Nat) × (Nat → Int64) × (Nat → Int32) × (Nat → Int32) × (Nat → Int64) × (Nat → Nat → Int32) × (Nat → Nat → Int32) × (Nat → Nat → Int64)) := fun (x4, tI, tJ, tP, tO, tR, mI, mJ, mA, qI, qJ) => (
 if x3 ≤ x4 then (
  some (tI, tJ, tP, tO, tR, mI, mJ, mA, qI, qJ)
 ) else (
  (f_X1_execute0 n x4 pI pA mI mJ mA).bind fun (mI3, mJ3, mA3) => (
   (f_X0_enter n L x4 tI tJ tP tO tR mI3 mJ3 qI qJ).bind fun (r4, tI4, tJ4, tP4, tO4, tR4, qI4, qJ4) => (
    if r4 = 0 then (
     f_X0_survey_b36 n L pI pA tI4 tJ4 tP4 tO4 tR4 mI3 mJ3 mA3 qI4 qJ4
    ) else (
     rc12 ((x4 + 1), tI4, tJ4, tP4, tO4, tR4, mI3, mJ3, mA3, qI4, qJ4)
    )
   )
  )
 )
)
def f_X0_survey (n : Nat) (L : List Nat) (pI : Nat → Int32) (pA : Nat → Nat → Int32) (tI : Nat → Int32) (tJ : Nat → Int64) (tP : Nat → Option Nat) (tO : Nat → Int64) (tR : Nat → Int32) (mI : Nat → Int32) (mJ : Nat → Int64) (mA : Nat → Nat → Int32) (qI : Nat → Nat → Int32) (qJ : Nat → Nat → Int64) : Option ((Nat → Int32) × (Nat → Int64) × (Nat → Option Nat) × (Nat → Int64) × (Nat → Int32) × (Nat → Int32) × (Nat → Int64) × (Nat → Nat → Int32) × (Nat → Nat → Int32) × (Nat → Nat → Int64)) := (
 (f_X0_forget tI tJ).bind fun (tI6, tJ6) => (
  (f_X3_words pI).bind fun (r7, _u7) => (
   lp (f_X0_survey_l12 n L r7 pI pA) n ((0 : Int32), tI6, tJ6, tP, tO, tR, mI, mJ, mA, qI, qJ)
  )
 )
)
def f_X4_forgetFindings (L : List Nat) (bI : Nat → Int32) (tI : Nat → Int32) (tJ : Nat → Int64) : Option ((Nat → Int32) × (Nat → Int32) × (Nat → Int64)) := (
 (f_X0_forget tI tJ).bind fun (tI1, tJ1) => (
  some ((upd bI 1 (1 : Int32)), tI1, tJ1)
 )
)
def f_X4_input (L : List Nat) (u1 : Int32) (u2 : Int32) (bI : Nat → Int32) (pI : Nat → Int32) (pA : Nat → Nat → Int32) (tI : Nat → Int32) (tJ : Nat → Int64) : Option (Int32 × (Nat → Int32) × (Nat → Int32) × (Nat → Nat → Int32) × (Nat → Int32) × (Nat → Int64)) := (
 (f_X3_addInput u1 u2 pI pA).bind fun (r1, pI1, pA1) => (
  if r1 = (-1 : Int32) then (
   some (r1, (bI, pI1, pA1, tI, tJ))
  ) else (
   (f_X4_forgetFindings L bI tI tJ).bind fun (bI3, tI3, tJ3) => (
    some (r1, (bI3, pI1, pA1, tI3, tJ3))
   )
  )
 )
)
def f_X4_tell (L : List Nat) (u1 : Int32) (u2 : Int32) (u3 : Int32) (u4 : Int32) (bI : Nat → Int32) (pI : Nat → Int32) (pA : Nat → Nat → Int32) (tI : Nat → Int32) (tJ : Nat → Int64) : Option (Int32 × (Nat → Int32) × (Nat → Int32) × (Nat → Nat → Int32) × (Nat → Int32) × (Nat → Int64)) := (
 (f_X3_addInstruction u1 u2 u3 u4 pI pA).bind fun (r1, pI1, pA1) => (
  if r1 = (-1 : Int32) then (
   some (r1, (bI, pI1, pA1, tI, tJ))
  ) else (
   (f_X4_forgetFindings L bI tI tJ).bind fun (bI3, tI3, tJ3) => (
    some (r1, (bI3, pI1, pA1, tI3, tJ3))
   )
  )
 )
)
def f_X4_clear (L : List Nat) (bI : Nat → Int32) (pI : Nat → Int32) (tI : Nat → Int32) (tJ : Nat → Int64) : Option (Int32 × (Nat → Int32) × (Nat → Int32) × (Nat → Int32) × (Nat → Int64)) := (
 (f_X3_empty pI).bind fun pI1 => (
  (f_X4_forgetFindings L bI tI tJ).bind fun (bI2, tI2, tJ2) => (
   some ((pI 2), ((upd bI2 0 (0 : Int32)), pI1, tI2, tJ2))
  )
 )
)
def f_X4_explore_b25 (n : Nat) (L : List Nat) (pI : Nat → Int32) (pA : Nat → Nat → Int32) (tI : Nat → Int32) (tJ : Nat → Int64) (tP : Nat → Option Nat) (tO : Nat → Int64) (tR : Nat → Int32) (mI : Nat → Int32) (mJ : Nat → Int64) (mA : Nat → Nat → Int32) (qI : Nat → Nat → Int32) (qJ : Nat → Nat → Int64) : Option (Int32 × (Nat → Int32) × (Nat → Int64) × (Nat → Option Nat) × (Nat → Int64) × (Nat → Int32) × (Nat → Int32) × (Nat → Int64) × (Nat → Nat → Int32) × (Nat → Nat → Int32) × (Nat → Nat → Int64)) := (
 (f_X0_knownOrNone (tI 0) tI).bind fun (r1, _u1) => (
  some (r1, (tI, tJ, tP, tO, tR, mI, mJ, mA, qI, qJ))
 )
)
def f_X4_explore (n : Nat) (L : List Nat) (pI : Nat → Int32) (pA : Nat → Nat → Int32) (tI : Nat → Int32) (tJ : Nat → Int64) (tP : Nat → Option Nat) (tO : Nat → Int64) (tR : Nat → Int32) (mI : Nat → Int32) (mJ : Nat → Int64) (mA : Nat → Nat → Int32) (qI : Nat → Nat → Int32) (qJ : Nat → Nat → Int64) : Option (Int32 × (Nat → Int32) × (Nat → Int64) × (Nat → Option Nat) × (Nat → Int64) × (Nat → Int32) × (Nat → Int32) × (Nat → Int64) × (Nat → Nat → Int32) × (Nat → Nat → Int32) × (Nat → Nat → Int64)) := (
 (f_X0_isKnown tI).bind fun (r2, _u2) => (
  if r2 = 0 then (
   (f_X0_survey n L pI pA tI tJ tP tO tR mI mJ mA qI qJ).bind fun (tI4, tJ4, tP4, tO4, tR4, mI4, mJ4, mA4, qI4, qJ4) => (
    f_X4_explore_b25 n L pI pA tI4 tJ4 tP4 tO4 tR4 mI4 mJ4 mA4 qI4 qJ4
   )
  ) else (
   f_X4_explore_b25 n L pI pA tI tJ tP tO tR mI mJ mA qI qJ
  )
 )
)
def f_X4_path (L : List Nat) (u1 : Int32) (u2 : Int32) (tI : Nat → Int32) (tP : Nat → Option Nat) (qI : Nat → Nat → Int32) (qJ : Nat → Nat → Int64) : Option (Int32 × Unit) := (
 (f_X0_pathAt L u1 tI tP).bind fun (r1, _u1) => (
  match r1 with
  | none => (
   some ((-1 : Int32), ())
  )
  | some a2 => (
   if u2 = (0 : Int32) then (
    if a2 ∈ L then (
     some ((qI a2 0), ())
    ) else none
   ) else (
    if u2 = (1 : Int32) then (
     if a2 ∈ L then (
      some ((qI a2 1), ())
     ) else none
    ) else (
     if u2 = (2 : Int32) then (
      if a2 ∈ L then (
       (f_J13_bitCount_95d88 (qJ a2 0)).bind fun (r9, _u9) => (
        some (r9, ())
       )
      ) else none
     ) else (
      if u2 = (3 : Int32) then (
       if a2 ∈ L then (
        some ((qI a2 2), ())
       ) else none
      ) else (
       if u2 = (4 : Int32) then (
        if a2 ∈ L then (
         some ((qI a2 3), ())
        ) else none
       ) else (
        if u2 = (5 : Int32) then (
         if a2 ∈ L then (
          if (qI a2 4) = 0 then (
           some ((0 : Int32), ())
          ) else (
           some ((1 : Int32), ())
          )
         ) else none
        ) else (
         some ((0 : Int32), ())
        )
       )
      )
     )
    )
   )
  )
 )
)
def f_X4_decision (n : Nat) (L : List Nat) (u1 : Int32) (u2 : Int32) (tI : Nat → Int32) (tP : Nat → Option Nat) (qJ : Nat → Nat → Int64) : Option (Int32 × Unit) := (
 (f_X0_pathAt L u1 tI tP).bind fun (r1, _u1) => (
  match r1 with
  | none => (
   some ((-1 : Int32), ())
  )
  | some a2 => (
   if a2 ∈ L then (
    (f_X4_placeOfMark n (qJ a2 0) u2).bind fun (r5, _u5) => (
     if r5 = (-1 : Int32) then (
      some ((-1 : Int32), ())
     ) else (
      (f_X4_isMarked (qJ a2 1) r5).bind fun (r8, _u8) => (
       if r8 = 0 then (
        some ((((2 : Int32) * r5) + (0 : Int32)), ())
       ) else (
        some ((((2 : Int32) * r5) + (1 : Int32)), ())
       )
      )
     )
    )
   ) else none
  )
 )
)
def f_X4_holds (L : List Nat) (u1 : Int32) (u2 : Int32) (pI : Nat → Int32) (tI : Nat → Int32) (tP : Nat → Option Nat) (tO : Nat → Int64) (qJ : Nat → Nat → Int64) : Option (Int32 × Unit) := (
 (f_X0_pathAt L u1 tI tP).bind fun (r1, _u1) => (
  match r1 with
  | none => (
   some ((-1 : Int32), ())
  )
  | some a2 => (
   (f_X3_hasWord u2 pI).bind fun (r3, _u3) => (
    if r3 = 0 then (
     some ((-1 : Int32), ())
    ) else (
     (f_X0_goes L a2 u2 tO qJ).bind fun (r5, _u5) => (
      if r5 = 0 then (
       some ((0 : Int32), ())
      ) else (
       some ((1 : Int32), ())
      )
     )
    )
   )
  )
 )
)
def f_X4_value (n : Nat) (L : List Nat) (u1 : Int32) (u2 : Int32) (pI : Nat → Int32) (pA : Nat → Nat → Int32) (tI : Nat → Int32) (tP : Nat → Option Nat) (mI : Nat → Int32) (mJ : Nat → Int64) (mA : Nat → Nat → Int32) (qJ : Nat → Nat → Int64) : Option (Int32 × (Nat → Int32) × (Nat → Int64) × (Nat → Nat → Int32)) := (
 (f_X0_pathAt L u1 tI tP).bind fun (r1, _u1) => (
  match r1 with
  | none => (
   some ((0 : Int32), (mI, mJ, mA))
  )
  | some a2 => (
   (f_X3_hasWord u2 pI).bind fun (r3, _u3) => (
    if r3 = 0 then (
     some ((0 : Int32), (mI, mJ, mA))
    ) else (
     (f_X1_execute1 n L u2 a2 pI pA mI mJ mA qJ).bind fun (mI5, mJ5, mA5) => (
      some ((mI5 4), (mI5, mJ5, mA5))
     )
    )
   )
  )
 )
)
def f_X4_find (n : Nat) (L : List Nat) (u1 : Int32) (u2 : Int32) (u3 : Int32) (pI : Nat → Int32) (tI : Nat → Int32) (tP : Nat → Option Nat) (tO : Nat → Int64) (tR : Nat → Int32) (qI : Nat → Nat → Int32) (qJ : Nat → Nat → Int64) : Option (Int32 × Unit) := (
 (f_X0_pathAt L u1 tI tP).bind fun (r1, _u1) => (
  match r1 with
  | none => (
   some ((-1 : Int32), ())
  )
  | some a2 => (
   (f_X3_words pI).bind fun (r3, _u3) => (
    (f_X0_leastWordWith n L a2 u2 u3 r3 tO tR qI qJ).bind fun (r4, _u4) => (
     some (r4, ())
    )
   )
  )
 )
)
def f_X4_run (n : Nat) (L : List Nat) (u1 : Int32) (bI : Nat → Int32) (pI : Nat → Int32) (pA : Nat → Nat → Int32) (nI : Nat → Int32) (nJ : Nat → Int64) (nA : Nat → Nat → Int32) : Option (Int32 × (Nat → Int32) × (Nat → Int32) × (Nat → Int64) × (Nat → Nat → Int32)) := (
 (f_X3_hasWord u1 pI).bind fun (r1, _u1) => (
  if r1 = 0 then (
   some ((-1 : Int32), (bI, nI, nJ, nA))
  ) else (
   (f_X1_execute0 n u1 pI pA nI nJ nA).bind fun (nI3, nJ3, nA3) => (
    some ((nI3 3), ((upd (upd bI 0 (1 : Int32)) 1 (0 : Int32)), nI3, nJ3, nA3))
   )
  )
 )
)
def f_X4_ran (n : Nat) (L : List Nat) (u1 : Int32) (bI : Nat → Int32) (tI : Nat → Int32) (tP : Nat → Option Nat) (nI : Nat → Int32) (nJ : Nat → Int64) (qJ : Nat → Nat → Int64) : Option (Int32 × Unit) := (
 if (bI 0) = 0 then (
  some ((-1 : Int32), ())
 ) else (
  if u1 = (0 : Int32) then (
   some ((nI 3), ())
  ) else (
   if u1 = (1 : Int32) then (
    some ((nI 1), ())
   ) else (
    if u1 = (2 : Int32) then (
     some ((nI 4), ())
    ) else (
     if u1 = (3 : Int32) then (
      (f_J13_bitCount_95d88 (nJ 2)).bind fun (r2, _u2) => (
       some (r2, ())
      )
     ) else (
      if u1 = (4 : Int32) then (
       (f_J13_bitCount_95d88 (nJ 3)).bind fun (r3, _u3) => (
        some (r3, ())
       )
      ) else (
       if u1 = (5 : Int32) then (
        if (bI 1) = 0 then (
         (f_X0_numberOf n L (nJ 4) tI tP qJ).bind fun (r5, _u5) => (
          some (r5, ())
         )
        ) else (
         some ((-1 : Int32), ())
        )
       ) else (
        some ((-1 : Int32), ())
       )
      )
     )
    )
   )
  )
 )
)
def f_X4_register (L : List Nat) (u1 : Int32) (bI : Nat → Int32) (nA : Nat → Nat → Int32) : Option (Int32 × Unit) := (
 if (bI 0) = 0 then (
  some ((0 : Int32), ())
 ) else (
  (f_X4_isRegister u1).bind fun (r2, _u2) => (
   if r2 = 0 then (
    some ((0 : Int32), ())
   ) else (
    if inb u1 16 = true then (
     some ((nA 0 u1.toNatClampNeg), ())
    ) else none
   )
  )
 )
)
def f_X4_cell (L : List Nat) (u1 : Int32) (bI : Nat → Int32) (nA : Nat → Nat → Int32) : Option (Int32 × Unit) := (
 if (bI 0) = 0 then (
  some ((0 : Int32), ())
 ) else (
  (f_X4_isCell u1).bind fun (r2, _u2) => (
   if r2 = 0 then (
    some ((0 : Int32), ())
   ) else (
    if inb u1 8 = true then (
     some ((nA 1 u1.toNatClampNeg), ())
    ) else none
   )
  )
 )
)
def f_X4_failure (n : Nat) (L : List Nat) (u1 : Int32) (u2 : Int32) (tI : Nat → Int32) (tJ : Nat → Int64) (tP : Nat → Option Nat) (qI : Nat → Nat → Int32) : Option (Int32 × Unit) := (
 (f_X0_firstFailing n L u1 tI tJ tP qI).bind fun (r1, _u1) => (
  match r1 with
  | none => (
   some ((-1 : Int32), ())
  )
  | some a2 => (
   if u2 = (0 : Int32) then (
    if a2 ∈ L then (
     some ((qI a2 0), ())
    ) else none
   ) else (
    if u2 = (1 : Int32) then (
     if a2 ∈ L then (
      some ((qI a2 1), ())
     ) else none
    ) else (
     if u2 = (2 : Int32) then (
      if a2 ∈ L then (
       some ((qI a2 2), ())
      ) else none
     ) else (
      some ((-1 : Int32), ())
     )
    )
   )
  )
 )
)
def f_X4_covered (L : List Nat) (u1 : Int32) (pI : Nat → Int32) (tI : Nat → Int32) (tJ : Nat → Int64) : Option (Int32 × Unit) := (
 if u1 < 0 then (
  some ((-1 : Int32), ())
 ) else (
  if (pI 2) ≤ u1 then (
   some ((-1 : Int32), ())
  ) else (
   (f_X0_isKnown tI).bind fun (r3, _u3) => (
    if r3 = 0 then (
     some ((-1 : Int32), ())
    ) else (
     (f_X4_isMarked (tJ 0) u1).bind fun (r5, _u5) => (
      if r5 = 0 then (
       some ((0 : Int32), ())
      ) else (
       some ((1 : Int32), ())
      )
     )
    )
   )
  )
 )
)
def f_X4_count (L : List Nat) (u1 : Int32) (pI : Nat → Int32) (tI : Nat → Int32) (tJ : Nat → Int64) : Option (Int32 × Unit) := (
 if u1 = (0 : Int32) then (
  some ((pI 0), ())
 ) else (
  if u1 = (1 : Int32) then (
   some ((pI 1), ())
  ) else (
   if u1 = (2 : Int32) then (
    some ((pI 2), ())
   ) else (
    if u1 = (3 : Int32) then (
     (f_X0_knownOrNone (tI 0) tI).bind fun (r1, _u1) => (
      some (r1, ())
     )
    ) else (
     if u1 = (4 : Int32) then (
      (f_J13_bitCount_95d88 (tJ 1)).bind fun (r2, _u2) => (
       (f_X0_knownOrNone r2 tI).bind fun (r3, _u3) => (
        some (r3, ())
       )
      )
     ) else (
      if u1 = (5 : Int32) then (
       (f_J13_bitCount_95d88 (tJ 0)).bind fun (r4, _u4) => (
        (f_X0_knownOrNone r4 tI).bind fun (r5, _u5) => (
         some (r5, ())
        )
       )
      ) else (
       some ((-1 : Int32), ())
      )
     )
    )
   )
  )
 )
)
def f_X5_isRegister (u0 : Int32) : Option (Int32 × Unit) := (
 if u0 < 0 then (
  some ((0 : Int32), ())
 ) else (
  if (16 : Int32) ≤ u0 then (
   some ((0 : Int32), ())
  ) else (
   some ((1 : Int32), ())
  )
 )
)
def f_X5_isDivision (u0 : Int32) : Option (Int32 × Unit) := (
 if u0 < (12 : Int32) then (
  some ((0 : Int32), ())
 ) else (
  if (15 : Int32) < u0 then (
   some ((0 : Int32), ())
  ) else (
   some ((1 : Int32), ())
  )
 )
)
def f_X5_isBelow (u0 : Int32) (u1 : Int32) : Option (Int32 × Unit) := (
 if (u1 + (-2147483648 : Int32)) ≤ (u0 + (-2147483648 : Int32)) then (
  some ((0 : Int32), ())
 ) else (
  some ((1 : Int32), ())
 )
)
def f_X5_plain (u0 : Int32) : Option (Int64 × Unit) := (
 some ((u0.toInt64 &&& (4294967295 : Int64)), ())
)
def f_X5_truth (u0 : Int32) : Option (Int32 × Unit) := (
 if u0 = 0 then (
  some ((0 : Int32), ())
 ) else (
  some ((1 : Int32), ())
 )
)
def f_X5_reckoned_b292 (y0 : Int32) : Option (Int32 × Unit) := (
 (f_X5_truth y0).bind fun (r1, _u1) => (
  some (r1, ())
 )
)
def f_X5_reckoned_b278 (y0 : Int32) : Option (Int32 × Unit) := (
 (f_X5_truth y0).bind fun (r2, _u2) => (
  some (r2, ())
 )
)
def f_X5_reckoned_b264 (y0 : Int32) : Option (Int32 × Unit) := (
 (f_X5_truth y0).bind fun (r3, _u3) => (
  some (r3, ())
 )
)
def f_X5_reckoned_b238 (y0 : Int32) : Option (Int32 × Unit) := (
 (f_X5_truth y0).bind fun (r4, _u4) => (
  some (r4, ())
 )
)
def f_X5_reckoned_b224 (y0 : Int32) : Option (Int32 × Unit) := (
 (f_X5_truth y0).bind fun (r5, _u5) => (
  some (r5, ())
 )
)
def f_X5_reckoned (u0 : Int32) (u1 : Int32) (u2 : Int32) : Option (Int32 × Unit) := (
 if u0 = (3 : Int32) then (
  some ((u1 + u2), ())
 ) else (
  if u0 = (4 : Int32) then (
   some ((u1 - u2), ())
  ) else (
   if u0 = (5 : Int32) then (
    some ((u1 * u2), ())
   ) else (
    if u0 = (6 : Int32) then (
     some ((u1 &&& u2), ())
    ) else (
     if u0 = (7 : Int32) then (
      some ((u1 ||| u2), ())
     ) else (
      if u0 = (8 : Int32) then (
       some ((u1 ^^^ u2), ())
      ) else (
       if u0 = (9 : Int32) then (
        some ((u1 <<< ((u2 &&& (31 : Int32)) &&& 31)), ())
       ) else (
        if u0 = (10 : Int32) then (
         some ((u1.toUInt32 >>> ((u2 &&& (31 : Int32)).toUInt32 &&& Int32.toUInt32 31)).toInt32, ())
        ) else (
         if u0 = (11 : Int32) then (
          some ((u1 >>> ((u2 &&& (31 : Int32)) &&& 31)), ())
         ) else (
          if u0 = (12 : Int32) then (
           if u2 = 0 then (
            some ((-1 : Int32), ())
           ) else (
            (f_X5_plain u1).bind fun (r7, _u7) => (
             (f_X5_plain u2).bind fun (r8, _u8) => (
              if ¬ r8 = 0 then (
               some ((r7 / r8).toInt32, ())
              ) else none
             )
            )
           )
          ) else (
           if u0 = (13 : Int32) then (
            if u2 = 0 then (
             some (u1, ())
            ) else (
             (f_X5_plain u1).bind fun (r11, _u11) => (
              (f_X5_plain u2).bind fun (r12, _u12) => (
               if ¬ r12 = 0 then (
                some ((r11 - r11 / r12 * r12).toInt32, ())
               ) else none
              )
             )
            )
           ) else (
            if u0 = (14 : Int32) then (
             if u2 = 0 then (
              some ((-1 : Int32), ())
             ) else (
              if u2 = (-1 : Int32) then (
               some ((-u1), ())
              ) else (
               if ¬ u2 = 0 then (
                some ((u1 / u2), ())
               ) else none
              )
             )
            ) else (
             if u0 = (15 : Int32) then (
              if u2 = 0 then (
               some (u1, ())
              ) else (
               if u2 = (-1 : Int32) then (
                some ((0 : Int32), ())
               ) else (
                if ¬ u2 = 0 then (
                 some ((u1 - u1 / u2 * u2), ())
                ) else none
               )
              )
             ) else (
              if u0 = (16 : Int32) then (
               if u1 = u2 then (
                f_X5_reckoned_b224 (1 : Int32) 
               ) else (
                f_X5_reckoned_b224 (0 : Int32) 
               )
              ) else (
               if u0 = (17 : Int32) then (
                if u1 = u2 then (
                 f_X5_reckoned_b238 (0 : Int32) 
                ) else (
                 f_X5_reckoned_b238 (1 : Int32) 
                )
               ) else (
                if u0 = (18 : Int32) then (
                 (f_X5_isBelow u1 u2).bind fun (r22, _u22) => (
                  (f_X5_truth r22).bind fun (r23, _u23) => (
                   some (r23, ())
                  )
                 )
                ) else (
                 if u0 = (19 : Int32) then (
                  (f_X5_isBelow u2 u1).bind fun (r24, _u24) => (
                   if r24 = 0 then (
                    f_X5_reckoned_b264 (1 : Int32) 
                   ) else (
                    f_X5_reckoned_b264 (0 : Int32) 
                   )
                  )
                 ) else (
                  if u0 = (20 : Int32) then (
                   if u2 ≤ u1 then (
                    f_X5_reckoned_b278 (0 : Int32) 
                   ) else (
                    f_X5_reckoned_b278 (1 : Int32) 
                   )
                  ) else (
                   if u2 < u1 then (
                    f_X5_reckoned_b292 (0 : Int32) 
                   ) else (
                    f_X5_reckoned_b292 (1 : Int32) 
                   )
                  )
                 )
                )
               )
              )
             )
            )
           )
          )
         )
        )
       )
      )
     )
    )
   )
  )
 )
)
def f_X5_turn7 (K : List Nat) (u1 : Int32) (u2 : Int32) (rA : Nat → Nat → Int32) : Option ((Nat → Nat → Int32)) := (
 if inb u1 40 = true then (
  if inb u2 40 = true then (
   if inb u1 40 = true then (
    (some (up2 rA 6 u1.toNatClampNeg (rA 6 u2.toNatClampNeg))).bind fun rA_5 => (
     if inb u2 40 = true then (
      some ((up2 rA_5 6 u2.toNatClampNeg (rA 6 u1.toNatClampNeg)))
     ) else none
    )
   ) else none
  ) else none
 ) else none
)
def f_X5_turn8 (K : List Nat) (u1 : Int32) (u2 : Int32) (rA : Nat → Nat → Int32) : Option ((Nat → Nat → Int32)) := (
 if inb u1 40 = true then (
  if inb u2 40 = true then (
   if inb u1 40 = true then (
    (some (up2 rA 7 u1.toNatClampNeg (rA 7 u2.toNatClampNeg))).bind fun rA_5 => (
     if inb u2 40 = true then (
      some ((up2 rA_5 7 u2.toNatClampNeg (rA 7 u1.toNatClampNeg)))
     ) else none
    )
   ) else none
  ) else none
 ) else none
)
def f_X5_turn9 (K : List Nat) (u1 : Int32) (u2 : Int32) (rA : Nat → Nat → Int32) : Option ((Nat → Nat → Int32)) := (
 if inb u1 40 = true then (
  if inb u2 40 = true then (
   if inb u1 40 = true then (
    (some (up2 rA 8 u1.toNatClampNeg (rA 8 u2.toNatClampNeg))).bind fun rA_5 => (
     if inb u2 40 = true then (
      some ((up2 rA_5 8 u2.toNatClampNeg (rA 8 u1.toNatClampNeg)))
     ) else none
    )
   ) else none
  ) else none
 ) else none
)
def f_X5_turn10 (K : List Nat) (u1 : Int32) (u2 : Int32) (rA : Nat → Nat → Int32) : Option ((Nat → Nat → Int32)) := (
 if inb u1 40 = true then (
  if inb u2 40 = true then (
   if inb u1 40 = true then (
    (some (up2 rA 9 u1.toNatClampNeg (rA 9 u2.toNatClampNeg))).bind fun rA_5 => (
     if inb u2 40 = true then (
      some ((up2 rA_5 9 u2.toNatClampNeg (rA 9 u1.toNatClampNeg)))
     ) else none
    )
   ) else none
  ) else none
 ) else none
)
def f_X5_changed (K : List Nat) (rI : Nat → Int32) : Option ((Nat → Int32)) := (
 some ((upd (upd rI 6 (-1 : Int32)) 19 (0 : Int32)))
)
def f_X5_isTarget (K : List Nat) (u1 : Int32) (rI : Nat → Int32) : Option (Int32 × Unit) := (
 if u1 ≤ (rI 3) then (
  some ((0 : Int32), ())
 ) else (
  if (60 : Int32) < u1 then (
   some ((0 : Int32), ())
  ) else (
   some ((1 : Int32), ())
  )
 )
)
def f_X5_isGood_b68 (K : List Nat) (x2 : Int32) (x3 : Int32) (x4 : Int32) (rI : Nat → Int32) : Option (Int32 × Unit) := (
 (f_X5_isRegister x2).bind fun (r1, _u1) => (
  if r1 = 0 then (
   some ((0 : Int32), ())
  ) else (
   (f_X5_isRegister x3).bind fun (r3, _u3) => (
    if r3 = 0 then (
     some ((0 : Int32), ())
    ) else (
     (f_X5_isRegister x4).bind fun (r5, _u5) => (
      if r5 = 0 then (
       some ((0 : Int32), ())
      ) else (
       some ((1 : Int32), ())
      )
     )
    )
   )
  )
 )
)
def f_X5_isGood_b62 (K : List Nat) (x1 : Int32) (x2 : Int32) (x3 : Int32) (x4 : Int32) (rI : Nat → Int32) : Option (Int32 × Unit) := (
 if x1 = (24 : Int32) then (
  f_X5_isGood_b68 K x2 x3 x4 rI
 ) else (
  if (26 : Int32) < x1 then (
   if x1 = (27 : Int32) then (
    (f_X5_isRegister x2).bind fun (r16, _u16) => (
     if r16 = 0 then (
      some ((0 : Int32), ())
     ) else (
      (f_X5_isTarget K x3 rI).bind fun (r18, _u18) => (
       if r18 = 0 then (
        some ((0 : Int32), ())
       ) else (
        some ((1 : Int32), ())
       )
      )
     )
    )
   ) else (
    if x1 = (28 : Int32) then (
     (f_X5_isTarget K x2 rI).bind fun (r15, _u15) => (
      if r15 = 0 ∨ r15 = 1 then some (r15, ()) else none
     )
    ) else (
     if x1 = (30 : Int32) then (
      if x2 < 0 then (
       some ((0 : Int32), ())
      ) else (
       if (255 : Int32) < x2 then (
        some ((0 : Int32), ())
       ) else (
        some ((1 : Int32), ())
       )
      )
     ) else (
      (f_X5_isRegister x2).bind fun (r12, _u12) => (
       if r12 = 0 ∨ r12 = 1 then some (r12, ()) else none
      )
     )
    )
   )
  ) else (
   (f_X5_isRegister x2).bind fun (r20, _u20) => (
    if r20 = 0 then (
     some ((0 : Int32), ())
    ) else (
     (f_X5_isRegister x3).bind fun (r22, _u22) => (
      if r22 = 0 then (
       some ((0 : Int32), ())
      ) else (
       some ((1 : Int32), ())
      )
     )
    )
   )
  )
 )
)
def f_X5_isGood (K : List Nat) (u1 : Int32) (u2 : Int32) (u3 : Int32) (u4 : Int32) (rI : Nat → Int32) : Option (Int32 × Unit) := (
 if u1 < 0 then (
  some ((0 : Int32), ())
 ) else (
  if u1 ≤ (31 : Int32) then (
   if u1 = 0 then (
    (f_X5_isRegister u2).bind fun (r34, _u34) => (
     if r34 = 0 ∨ r34 = 1 then some (r34, ()) else none
    )
   ) else (
    if u1 = (1 : Int32) then (
     (f_X5_isRegister u2).bind fun (r30, _u30) => (
      if r30 = 0 then (
       some ((0 : Int32), ())
      ) else (
       if u3 < 0 then (
        some ((0 : Int32), ())
       ) else (
        if (rI 1) ≤ u3 then (
         some ((0 : Int32), ())
        ) else (
         some ((1 : Int32), ())
        )
       )
      )
     )
    ) else (
     if u1 < (3 : Int32) then (
      f_X5_isGood_b62 K u1 u2 u3 u4 rI
     ) else (
      if u1 ≤ (21 : Int32) then (
       f_X5_isGood_b68 K u2 u3 u4 rI
      ) else (
       f_X5_isGood_b62 K u1 u2 u3 u4 rI
      )
     )
    )
   )
  ) else (
   some ((0 : Int32), ())
  )
 )
)
def f_X5_input (K : List Nat) (u1 : Int32) (u2 : Int32) (rI : Nat → Int32) (rA : Nat → Nat → Int32) : Option (Int32 × (Nat → Int32) × (Nat → Nat → Int32)) := (
 if (rI 1) = (4 : Int32) then (
  some ((-1 : Int32), (rI, rA))
 ) else (
  if u1 < (1 : Int32) then (
   some ((-1 : Int32), (rI, rA))
  ) else (
   if (12 : Int32) < u1 then (
    some ((-1 : Int32), (rI, rA))
   ) else (
    if ((rI 2) + u1) ≤ (12 : Int32) then (
     if inb (rI 1) 4 = true then (
      (some (up2 rA 0 (rI 1).toNatClampNeg u1)).bind fun rA_7 => (
       if inb (rI 1) 4 = true then (
        (f_X5_changed K (upd (upd rI 1 ((rI 1) + (1 : Int32))) 2 (((upd rI 1 ((rI 1) + (1 : Int32))) 2) + u1))).bind fun rI9 => (
         some (((rI9 1) - (1 : Int32)), (rI9, (up2 rA_7 1 (rI 1).toNatClampNeg (vp_nar .boolean u2))))
        )
       ) else none
      )
     ) else none
    ) else (
     some ((-1 : Int32), (rI, rA))
    )
   )
  )
 )
)
def f_X5_tell_b130 (K : List Nat) (y1 : Int32) (y2 : Int32) (rI : Nat → Int32) (rA : Nat → Nat → Int32) : Option (Int32 × (Nat → Int32) × (Nat → Nat → Int32)) := (
 (f_X5_changed K (upd (upd rI 5 (y1 + y2)) 3 (((upd rI 5 (y1 + y2)) 3) + (1 : Int32)))).bind fun rI1 => (
  some (((rI1 3) - (1 : Int32)), (rI1, rA))
 )
)
def f_X5_tell_b109 (K : List Nat) (x1 : Int32) (y1 : Int32) (y2 : Int32) (rI : Nat → Int32) (rA : Nat → Nat → Int32) : Option (Int32 × (Nat → Int32) × (Nat → Nat → Int32)) := (
 (f_X5_isDivision x1).bind fun (r2, _u2) => (
  if r2 = 0 then (
   f_X5_tell_b130 K ((upd rI 4 (y1 + y2)) 5) (0 : Int32) (upd rI 4 (y1 + y2)) rA
  ) else (
   f_X5_tell_b130 K ((upd rI 4 (y1 + y2)) 5) (1 : Int32) (upd rI 4 (y1 + y2)) rA
  )
 )
)
def f_X5_tell_b53 (K : List Nat) (x1 : Int32) (x2 : Int32) (x3 : Int32) (x4 : Int32) (rI : Nat → Int32) (rA : Nat → Nat → Int32) : Option (Int32 × (Nat → Int32) × (Nat → Nat → Int32)) := (
 if inb (rI 3) 60 = true then (
  (some (up2 rA 2 (rI 3).toNatClampNeg x1)).bind fun rA_6 => (
   if inb (rI 3) 60 = true then (
    (some (up2 rA_6 3 (rI 3).toNatClampNeg x2)).bind fun rA_9 => (
     if inb (rI 3) 60 = true then (
      (some (up2 rA_9 4 (rI 3).toNatClampNeg x3)).bind fun rA_12 => (
       if inb (rI 3) 60 = true then (
        if x1 = (5 : Int32) then (
         f_X5_tell_b109 K x1 (rI 4) (1 : Int32) rI (up2 rA_12 5 (rI 3).toNatClampNeg x4)
        ) else (
         f_X5_tell_b109 K x1 (rI 4) (0 : Int32) rI (up2 rA_12 5 (rI 3).toNatClampNeg x4)
        )
       ) else none
      )
     ) else none
    )
   ) else none
  )
 ) else none
)
def f_X5_tell_b35 (K : List Nat) (x1 : Int32) (x2 : Int32) (x3 : Int32) (x4 : Int32) (rI : Nat → Int32) (rA : Nat → Nat → Int32) : Option (Int32 × (Nat → Int32) × (Nat → Nat → Int32)) := (
 (f_X5_isDivision x1).bind fun (r15, _u15) => (
  if r15 = 0 then (
   f_X5_tell_b53 K x1 x2 x3 x4 rI rA
  ) else (
   if (rI 5) = (6 : Int32) then (
    some ((-1 : Int32), (rI, rA))
   ) else (
    f_X5_tell_b53 K x1 x2 x3 x4 rI rA
   )
  )
 )
)
def f_X5_tell (K : List Nat) (u1 : Int32) (u2 : Int32) (u3 : Int32) (u4 : Int32) (rI : Nat → Int32) (rA : Nat → Nat → Int32) : Option (Int32 × (Nat → Int32) × (Nat → Nat → Int32)) := (
 (f_X5_isGood K u1 u2 u3 u4 rI).bind fun (r18, _u18) => (
  if r18 = 0 then (
   some ((-1 : Int32), (rI, rA))
  ) else (
   if (rI 3) = (60 : Int32) then (
    some ((-1 : Int32), (rI, rA))
   ) else (
    if u1 = (5 : Int32) then (
     if (rI 4) = (6 : Int32) then (
      some ((-1 : Int32), (rI, rA))
     ) else (
      f_X5_tell_b35 K u1 u2 u3 u4 rI rA
     )
    ) else (
     f_X5_tell_b35 K u1 u2 u3 u4 rI rA
    )
   )
  )
 )
)
def f_X5_clear (K : List Nat) (rI : Nat → Int32) : Option (Int32 × (Nat → Int32)) := (
 (f_X5_changed K (upd (upd (upd (upd (upd (upd rI 1 (0 : Int32)) 2 (0 : Int32)) 3 (0 : Int32)) 4 (0 : Int32)) 5 (0 : Int32)) 12 (0 : Int32))).bind fun rI1 => (
  some ((rI 3), (rI1))
 )
)
def f_X5_words (K : List Nat) (rI : Nat → Int32) : Option (Int32 × Unit) := (
 some (((1 : Int32) <<< ((rI 2) &&& 31)), ())
)
def f_X5_inputOf_b32 (n : Nat) (K : List Nat) (x1 : Int32) (x2 : Int32) (x3 : Int32) (rI : Nat → Int32) (rA : Nat → Nat → Int32) : Option (Int32 × Unit) := (
 if inb x2 4 = true then (
  (some ((x1 >>> (x3 &&& 31)) &&& (((1 : Int32) <<< ((rA 0 x2.toNatClampNeg) &&& 31)) - (1 : Int32)))).bind fun z2 => (
   if inb x2 4 = true then (
    if (rA 1 x2.toNatClampNeg) = 0 then (
     some (z2, ())
    ) else (
     if inb x2 4 = true then (
      if (z2 >>> (((rA 0 x2.toNatClampNeg) - (1 : Int32)) &&& 31)) = (1 : Int32) then (
       if inb x2 4 = true then (
        some ((z2 - ((1 : Int32) <<< ((rA 0 x2.toNatClampNeg) &&& 31))), ())
       ) else none
      ) else (
       some (z2, ())
      )
     ) else none
    )
   ) else none
  )
 ) else none
)
def f_X5_inputOf_l7 (n : Nat) (K : List Nat) (x1 : Int32) (x2 : Int32) (rI : Nat → Int32) (rA : Nat → Nat → Int32) (rc7 : (Int32 × Int32) → Option (Int32 × Unit)) : (Int32 × Int32) → Option (Int32 × Unit) := fun (x3, x4) => (
 if (rI 1) ≤ x4 then (
  f_X5_inputOf_b32 n K x1 x2 x3 rI rA
 ) else (
  if inb x4 4 = true then (
   rc7 ((x3 + (rA 0 x4.toNatClampNeg)), (x4 + 1))
  ) else none
 )
)
def f_X5_inputOf (n : Nat) (K : List Nat) (u1 : Int32) (u2 : Int32) (rI : Nat → Int32) (rA : Nat → Nat → Int32) : Option (Int32 × Unit) := (
 lp (f_X5_inputOf_l7 n K u1 u2 rI rA) n ((0 : Int32), (u2 + (1 : Int32)))
)
def f_X5_ends (K : List Nat) (u1 : Int32) (u2 : Int32) (u3 : Int32) (rI : Nat → Int32) : Option ((Nat → Int32)) := (
 some ((upd (upd (upd rI 7 u1) 8 u2) 9 u3))
)
def f_X5_go0_b768 (n : Nat) (K : List Nat) (rI : Nat → Int32) (rA : Nat → Nat → Int32) : Option ((Nat → Int32) × (Nat → Nat → Int32)) := (
 (f_X5_ends K (0 : Int32) (rI 3) (0 : Int32) rI).bind fun rI1 => (
  some (rI1, rA)
 )
)
def f_X5_go0_b761 (n : Nat) (K : List Nat) (rc61 : (Int32 × (Nat → Int32) × (Nat → Nat → Int32)) → Option ((Nat → Int32) × (Nat → Nat → Int32))) (x1 : Int32) (x3 : Int32) (x9 : Int32) (rI : Nat → Int32) (rA : Nat → Nat → Int32) : Option ((Nat → Int32) × (Nat → Nat → Int32)) := (
 rc61 (x9, rI, rA)
)
def f_X5_go0_b757 (n : Nat) (K : List Nat) (y1 : Int32) (y2 : Int32) (y3 : Int32) (rI : Nat → Int32) (rA : Nat → Nat → Int32) : Option ((Nat → Int32) × (Nat → Nat → Int32)) := (
 (f_X5_ends K y1 y2 y3 rI).bind fun rI2 => (
  some (rI2, rA)
 )
)
def f_X5_go0_b736 (n : Nat) (K : List Nat) (x4 : Int32) (x5 : Int32) (x6 : Int32) (y1 : Int32) (rI : Nat → Int32) (rA : Nat → Nat → Int32) : Option ((Nat → Int32) × (Nat → Nat → Int32)) := (
 if x5 = (30 : Int32) then (
  f_X5_go0_b757 n K y1 x4 x6 rI rA
 ) else (
  if inb x6 16 = true then (
   f_X5_go0_b757 n K y1 x4 (rA 14 x6.toNatClampNeg) rI rA
  ) else none
 )
)
def f_X5_go0_b723 (n : Nat) (K : List Nat) (x4 : Int32) (x5 : Int32) (x6 : Int32) (rI : Nat → Int32) (rA : Nat → Nat → Int32) : Option ((Nat → Int32) × (Nat → Nat → Int32)) := (
 if x5 = (30 : Int32) then (
  f_X5_go0_b736 n K x4 x5 x6 (4 : Int32) rI rA
 ) else (
  f_X5_go0_b736 n K x4 x5 x6 (0 : Int32) rI rA
 )
)
def f_X5_go0_b714 (n : Nat) (K : List Nat) (x4 : Int32) (rI : Nat → Int32) (rA : Nat → Nat → Int32) : Option ((Nat → Int32) × (Nat → Nat → Int32)) := (
 (f_X5_ends K (3 : Int32) x4 (0 : Int32) rI).bind fun rI6 => (
  some (rI6, rA)
 )
)
def f_X5_go0_b683 (n : Nat) (K : List Nat) (rc61 : (Int32 × (Nat → Int32) × (Nat → Nat → Int32)) → Option ((Nat → Int32) × (Nat → Nat → Int32))) (x1 : Int32) (x3 : Int32) (y0 : Int32) (rI : Nat → Int32) (rA : Nat → Nat → Int32) : Option ((Nat → Int32) × (Nat → Nat → Int32)) := (
 f_X5_go0_b761 n K rc61 x1 x3 y0 rI rA
)
def f_X5_go0_b661 (n : Nat) (K : List Nat) (rc61 : (Int32 × (Nat → Int32) × (Nat → Nat → Int32)) → Option ((Nat → Int32) × (Nat → Nat → Int32))) (x1 : Int32) (x3 : Int32) (x9 : Int32) (rI : Nat → Int32) (rA : Nat → Nat → Int32) : Option ((Nat → Int32) × (Nat → Nat → Int32)) := (
 f_X5_go0_b761 n K rc61 x1 x3 x9 rI rA
)
def f_X5_go0_b638 (n : Nat) (K : List Nat) (rc61 : (Int32 × (Nat → Int32) × (Nat → Nat → Int32)) → Option ((Nat → Int32) × (Nat → Nat → Int32))) (x1 : Int32) (x3 : Int32) (x9 : Int32) (y1 : Int32) (y2 : Int32) (rI : Nat → Int32) (rA : Nat → Nat → Int32) : Option ((Nat → Int32) × (Nat → Nat → Int32)) := (
 if inb y1 16 = true then (
  f_X5_go0_b661 n K rc61 x1 x3 x9 rI (up2 rA 14 y1.toNatClampNeg y2)
 ) else none
)
def f_X5_go0_b607 (n : Nat) (K : List Nat) (rc61 : (Int32 × (Nat → Int32) × (Nat → Nat → Int32)) → Option ((Nat → Int32) × (Nat → Nat → Int32))) (x1 : Int32) (x3 : Int32) (x5 : Int32) (x6 : Int32) (x7 : Int32) (x9 : Int32) (x12 : Int32) (y0 : Int32) (rI : Nat → Int32) (rA : Nat → Nat → Int32) : Option ((Nat → Int32) × (Nat → Nat → Int32)) := (
 if x5 = (25 : Int32) then (
  if y0 = 0 then (
   f_X5_go0_b638 n K rc61 x1 x3 x9 x6 (0 : Int32) rI rA
  ) else (
   if inb x12 8 = true then (
    f_X5_go0_b638 n K rc61 x1 x3 x9 x6 (rA 15 x12.toNatClampNeg) rI rA
   ) else none
  )
 ) else (
  if y0 = 0 then (
   f_X5_go0_b661 n K rc61 x1 x3 x9 rI rA
  ) else (
   if inb x7 16 = true then (
    if inb x12 8 = true then (
     f_X5_go0_b661 n K rc61 x1 x3 x9 rI (up2 rA 15 x12.toNatClampNeg (rA 14 x7.toNatClampNeg))
    ) else none
   ) else none
  )
 )
)
def f_X5_go0_b606 (n : Nat) (K : List Nat) (rc61 : (Int32 × (Nat → Int32) × (Nat → Nat → Int32)) → Option ((Nat → Int32) × (Nat → Nat → Int32))) (x1 : Int32) (x3 : Int32) (x5 : Int32) (x6 : Int32) (x7 : Int32) (x9 : Int32) (x12 : Int32) (rI : Nat → Int32) (rA : Nat → Nat → Int32) : Option ((Nat → Int32) × (Nat → Nat → Int32)) := (
 f_X5_go0_b607 n K rc61 x1 x3 x5 x6 x7 x9 x12 (0 : Int32) rI rA
)
def f_X5_go0_b588 (n : Nat) (K : List Nat) (rc61 : (Int32 × (Nat → Int32) × (Nat → Nat → Int32)) → Option ((Nat → Int32) × (Nat → Nat → Int32))) (x1 : Int32) (x3 : Int32) (x5 : Int32) (x6 : Int32) (x7 : Int32) (x9 : Int32) (y0 : Int32) (rI : Nat → Int32) (rA : Nat → Nat → Int32) : Option ((Nat → Int32) × (Nat → Nat → Int32)) := (
 if y0 < 0 then (
  f_X5_go0_b606 n K rc61 x1 x3 x5 x6 x7 x9 y0 rI rA
 ) else (
  if (8 : Int32) ≤ y0 then (
   f_X5_go0_b606 n K rc61 x1 x3 x5 x6 x7 x9 y0 rI rA
  ) else (
   f_X5_go0_b607 n K rc61 x1 x3 x5 x6 x7 x9 y0 (1 : Int32) rI rA
  )
 )
)
def f_X5_go0_b555 (n : Nat) (K : List Nat) (x4 : Int32) (rI : Nat → Int32) (rA : Nat → Nat → Int32) : Option ((Nat → Int32) × (Nat → Nat → Int32)) := (
 (f_X5_ends K (2 : Int32) x4 (0 : Int32) rI).bind fun rI16 => (
  some (rI16, rA)
 )
)
def f_X5_go0_b539 (n : Nat) (K : List Nat) (rc61 : (Int32 × (Nat → Int32) × (Nat → Nat → Int32)) → Option ((Nat → Int32) × (Nat → Nat → Int32))) (x1 : Int32) (x3 : Int32) (x9 : Int32) (y1 : Int32) (y2 : Int32) (rI : Nat → Int32) (rA : Nat → Nat → Int32) : Option ((Nat → Int32) × (Nat → Nat → Int32)) := (
 if inb y1 16 = true then (
  f_X5_go0_b761 n K rc61 x1 x3 x9 rI (up2 rA 14 y1.toNatClampNeg y2)
 ) else none
)
def f_X5_go0_b412 (n : Nat) (K : List Nat) (rc61 : (Int32 × (Nat → Int32) × (Nat → Nat → Int32)) → Option ((Nat → Int32) × (Nat → Nat → Int32))) (x1 : Int32) (x3 : Int32) (x4 : Int32) (x5 : Int32) (x6 : Int32) (x7 : Int32) (x8 : Int32) (x9 : Int32) (x11 : Int32) (rI : Nat → Int32) (rA : Nat → Nat → Int32) : Option ((Nat → Int32) × (Nat → Nat → Int32)) := (
 if (21 : Int32) < x5 then (
  if x5 = (22 : Int32) then (
   if inb x7 16 = true then (
    if inb x6 16 = true then (
     f_X5_go0_b761 n K rc61 x1 x3 x9 rI (up2 rA 14 x6.toNatClampNeg ((rA 14 x7.toNatClampNeg) ^^^ (-1 : Int32)))
    ) else none
   ) else none
  ) else (
   if x5 = (23 : Int32) then (
    if inb x7 16 = true then (
     if inb x6 16 = true then (
      f_X5_go0_b761 n K rc61 x1 x3 x9 rI (up2 rA 14 x6.toNatClampNeg (-(rA 14 x7.toNatClampNeg)))
     ) else none
    ) else none
   ) else (
    if x5 = (24 : Int32) then (
     if inb x7 16 = true then (
      if (rA 14 x7.toNatClampNeg) = 0 then (
       if inb x6 16 = true then (
        f_X5_go0_b539 n K rc61 x1 x3 x9 x6 (rA 14 x6.toNatClampNeg) rI rA
       ) else none
      ) else (
       if inb x8 16 = true then (
        f_X5_go0_b539 n K rc61 x1 x3 x9 x6 (rA 14 x8.toNatClampNeg) rI rA
       ) else none
      )
     ) else none
    ) else (
     if (26 : Int32) < x5 then (
      if x5 = (27 : Int32) then (
       if x11 = 0 then (
        f_X5_go0_b683 n K rc61 x1 x3 x9 rI rA
       ) else (
        f_X5_go0_b683 n K rc61 x1 x3 x7 rI rA
       )
      ) else (
       if x5 = (28 : Int32) then (
        f_X5_go0_b761 n K rc61 x1 x3 x6 rI rA
       ) else (
        if x5 = (29 : Int32) then (
         if x11 = 0 then (
          f_X5_go0_b714 n K x4 rI rA
         ) else (
          f_X5_go0_b761 n K rc61 x1 x3 x9 rI rA
         )
        ) else (
         f_X5_go0_b723 n K x4 x5 x6 rI rA
        )
       )
      )
     ) else (
      if x11 = 0 then (
       f_X5_go0_b555 n K x4 rI rA
      ) else (
       if x5 = (25 : Int32) then (
        if inb x7 16 = true then (
         f_X5_go0_b588 n K rc61 x1 x3 x5 x6 x7 x9 (rA 14 x7.toNatClampNeg) rI rA
        ) else none
       ) else (
        if inb x6 16 = true then (
         f_X5_go0_b588 n K rc61 x1 x3 x5 x6 x7 x9 (rA 14 x6.toNatClampNeg) rI rA
        ) else none
       )
      )
     )
    )
   )
  )
 ) else (
  if inb x7 16 = true then (
   if inb x8 16 = true then (
    (f_X5_reckoned x5 (rA 14 x7.toNatClampNeg) (rA 14 x8.toNatClampNeg)).bind fun (r42, _u42) => (
     if inb x6 16 = true then (
      f_X5_go0_b761 n K rc61 x1 x3 x9 rI (up2 rA 14 x6.toNatClampNeg r42)
     ) else none
    )
   ) else none
  ) else none
 )
)
def f_X5_go0_b403 (n : Nat) (K : List Nat) (x4 : Int32) (rI : Nat → Int32) (rA : Nat → Nat → Int32) : Option ((Nat → Int32) × (Nat → Nat → Int32)) := (
 (f_X5_ends K (1 : Int32) x4 (0 : Int32) rI).bind fun rI44 => (
  some (rI44, rA)
 )
)
def f_X5_go0_b327 (n : Nat) (K : List Nat) (rc61 : (Int32 × (Nat → Int32) × (Nat → Nat → Int32)) → Option ((Nat → Int32) × (Nat → Nat → Int32))) (x1 : Int32) (x3 : Int32) (x4 : Int32) (x5 : Int32) (x6 : Int32) (x7 : Int32) (x8 : Int32) (x9 : Int32) (x11 : Int32) (rI : Nat → Int32) (rA : Nat → Nat → Int32) : Option ((Nat → Int32) × (Nat → Nat → Int32)) := (
 if x5 = 0 then (
  if inb x6 16 = true then (
   f_X5_go0_b761 n K rc61 x1 x3 x9 rI (up2 rA 14 x6.toNatClampNeg x7)
  ) else none
 ) else (
  if x5 = (1 : Int32) then (
   (f_X5_inputOf n K x1 x7 rI rA).bind fun (r53, _u53) => (
    if inb x6 16 = true then (
     f_X5_go0_b761 n K rc61 x1 x3 x9 rI (up2 rA 14 x6.toNatClampNeg r53)
    ) else none
   )
  ) else (
   if x5 = (2 : Int32) then (
    if inb x7 16 = true then (
     if inb x6 16 = true then (
      f_X5_go0_b761 n K rc61 x1 x3 x9 rI (up2 rA 14 x6.toNatClampNeg (rA 14 x7.toNatClampNeg))
     ) else none
    ) else none
   ) else (
    (f_X5_isDivision x5).bind fun (r48, _u48) => (
     if r48 = 0 then (
      f_X5_go0_b412 n K rc61 x1 x3 x4 x5 x6 x7 x8 x9 x11 rI rA
     ) else (
      if x11 = 0 then (
       f_X5_go0_b403 n K x4 rI rA
      ) else (
       f_X5_go0_b412 n K rc61 x1 x3 x4 x5 x6 x7 x8 x9 x11 rI rA
      )
     )
    )
   )
  )
 )
)
def f_X5_go0_b298 (n : Nat) (K : List Nat) (rc61 : (Int32 × (Nat → Int32) × (Nat → Nat → Int32)) → Option ((Nat → Int32) × (Nat → Nat → Int32))) (x1 : Int32) (x3 : Int32) (x4 : Int32) (x5 : Int32) (x6 : Int32) (x7 : Int32) (x8 : Int32) (x9 : Int32) (x11 : Int32) (rI : Nat → Int32) (rA : Nat → Nat → Int32) : Option ((Nat → Int32) × (Nat → Nat → Int32)) := (
 (f_X5_truth x11).bind fun (r56, _u56) => (
  if inb (rI 11) 60 = true then (
   f_X5_go0_b327 n K rc61 x1 x3 x4 x5 x6 x7 x8 x9 x11 (upd rI 11 ((rI 11) + (1 : Int32))) (up2 rA 16 (rI 11).toNatClampNeg (((2 : Int32) * x4) + r56))
  ) else none
 )
)
def f_X5_go0_b273 (n : Nat) (K : List Nat) (rc61 : (Int32 × (Nat → Int32) × (Nat → Nat → Int32)) → Option ((Nat → Int32) × (Nat → Nat → Int32))) (x1 : Int32) (x3 : Int32) (x4 : Int32) (x5 : Int32) (x6 : Int32) (x7 : Int32) (x8 : Int32) (x9 : Int32) (y0 : Int32) (rI : Nat → Int32) (rA : Nat → Nat → Int32) : Option ((Nat → Int32) × (Nat → Nat → Int32)) := (
 f_X5_go0_b298 n K rc61 x1 x3 x4 x5 x6 x7 x8 x9 y0 rI rA
)
def f_X5_go0_b259 (n : Nat) (K : List Nat) (rc61 : (Int32 × (Nat → Int32) × (Nat → Nat → Int32)) → Option ((Nat → Int32) × (Nat → Nat → Int32))) (x1 : Int32) (x3 : Int32) (x4 : Int32) (x5 : Int32) (x6 : Int32) (x7 : Int32) (x8 : Int32) (x9 : Int32) (rI : Nat → Int32) (rA : Nat → Nat → Int32) : Option ((Nat → Int32) × (Nat → Nat → Int32)) := (
 f_X5_go0_b273 n K rc61 x1 x3 x4 x5 x6 x7 x8 x9 (0 : Int32) rI rA
)
def f_X5_go0_b243 (n : Nat) (K : List Nat) (rc61 : (Int32 × (Nat → Int32) × (Nat → Nat → Int32)) → Option ((Nat → Int32) × (Nat → Nat → Int32))) (x1 : Int32) (x3 : Int32) (x4 : Int32) (x5 : Int32) (x6 : Int32) (x7 : Int32) (x8 : Int32) (x9 : Int32) (x12 : Int32) (rI : Nat → Int32) (rA : Nat → Nat → Int32) : Option ((Nat → Int32) × (Nat → Nat → Int32)) := (
 if x12 < 0 then (
  f_X5_go0_b259 n K rc61 x1 x3 x4 x5 x6 x7 x8 x9 rI rA
 ) else (
  if (8 : Int32) ≤ x12 then (
   f_X5_go0_b259 n K rc61 x1 x3 x4 x5 x6 x7 x8 x9 rI rA
  ) else (
   f_X5_go0_b273 n K rc61 x1 x3 x4 x5 x6 x7 x8 x9 (1 : Int32) rI rA
  )
 )
)
def f_X5_go0_b227 (n : Nat) (K : List Nat) (rc61 : (Int32 × (Nat → Int32) × (Nat → Nat → Int32)) → Option ((Nat → Int32) × (Nat → Nat → Int32))) (x1 : Int32) (x3 : Int32) (x4 : Int32) (x5 : Int32) (x6 : Int32) (x7 : Int32) (x8 : Int32) (x9 : Int32) (y0 : Int32) (rI : Nat → Int32) (rA : Nat → Nat → Int32) : Option ((Nat → Int32) × (Nat → Nat → Int32)) := (
 if x5 = (25 : Int32) then (
  f_X5_go0_b243 n K rc61 x1 x3 x4 x5 x6 x7 x8 x9 y0 rI rA
 ) else (
  if x5 = (26 : Int32) then (
   f_X5_go0_b243 n K rc61 x1 x3 x4 x5 x6 x7 x8 x9 y0 rI rA
  ) else (
   if y0 = 0 then (
    f_X5_go0_b273 n K rc61 x1 x3 x4 x5 x6 x7 x8 x9 (0 : Int32) rI rA
   ) else (
    f_X5_go0_b273 n K rc61 x1 x3 x4 x5 x6 x7 x8 x9 (1 : Int32) rI rA
   )
  )
 )
)
def f_X5_go0_b175 (n : Nat) (K : List Nat) (rc61 : (Int32 × (Nat → Int32) × (Nat → Nat → Int32)) → Option ((Nat → Int32) × (Nat → Nat → Int32))) (x1 : Int32) (x3 : Int32) (x4 : Int32) (x5 : Int32) (x6 : Int32) (x7 : Int32) (x8 : Int32) (x9 : Int32) (y0 : Int32) (rI : Nat → Int32) (rA : Nat → Nat → Int32) : Option ((Nat → Int32) × (Nat → Nat → Int32)) := (
 if y0 = 0 then (
  f_X5_go0_b327 n K rc61 x1 x3 x4 x5 x6 x7 x8 x9 (0 : Int32) rI rA
 ) else (
  (f_X5_isDivision x5).bind fun (r64, _u64) => (
   if r64 = 0 then (
    if x5 = (25 : Int32) then (
     if inb x7 16 = true then (
      f_X5_go0_b227 n K rc61 x1 x3 x4 x5 x6 x7 x8 x9 (rA 14 x7.toNatClampNeg) rI rA
     ) else none
    ) else (
     if inb x6 16 = true then (
      f_X5_go0_b227 n K rc61 x1 x3 x4 x5 x6 x7 x8 x9 (rA 14 x6.toNatClampNeg) rI rA
     ) else none
    )
   ) else (
    if inb x8 16 = true then (
     f_X5_go0_b227 n K rc61 x1 x3 x4 x5 x6 x7 x8 x9 (rA 14 x8.toNatClampNeg) rI rA
    ) else none
   )
  )
 )
)
def f_X5_go0_b170 (n : Nat) (K : List Nat) (rc61 : (Int32 × (Nat → Int32) × (Nat → Nat → Int32)) → Option ((Nat → Int32) × (Nat → Nat → Int32))) (x1 : Int32) (x3 : Int32) (x4 : Int32) (x5 : Int32) (x6 : Int32) (x7 : Int32) (x8 : Int32) (x9 : Int32) (rI : Nat → Int32) (rA : Nat → Nat → Int32) : Option ((Nat → Int32) × (Nat → Nat → Int32)) := (
 f_X5_go0_b175 n K rc61 x1 x3 x4 x5 x6 x7 x8 x9 (1 : Int32) rI rA
)
def f_X5_go0_b82 (n : Nat) (K : List Nat) (rc61 : (Int32 × (Nat → Int32) × (Nat → Nat → Int32)) → Option ((Nat → Int32) × (Nat → Nat → Int32))) (x1 : Int32) (x3 : Int32) (x4 : Int32) (rI : Nat → Int32) (rA : Nat → Nat → Int32) : Option ((Nat → Int32) × (Nat → Nat → Int32)) := (
 if inb x4 60 = true then (
  if inb x4 60 = true then (
   if inb x4 60 = true then (
    if inb x4 60 = true then (
     (f_X5_isDivision (rA 2 x4.toNatClampNeg)).bind fun (r74, _u74) => (
      if r74 = 0 then (
       if (rA 2 x4.toNatClampNeg) = (25 : Int32) then (
        f_X5_go0_b170 n K rc61 x1 x3 x4 (rA 2 x4.toNatClampNeg) (rA 3 x4.toNatClampNeg) (rA 4 x4.toNatClampNeg) (rA 5 x4.toNatClampNeg) (x4 + (1 : Int32)) (upd rI 10 ((rI 10) + (1 : Int32))) rA
       ) else (
        if (rA 2 x4.toNatClampNeg) = (26 : Int32) then (
         f_X5_go0_b170 n K rc61 x1 x3 x4 (rA 2 x4.toNatClampNeg) (rA 3 x4.toNatClampNeg) (rA 4 x4.toNatClampNeg) (rA 5 x4.toNatClampNeg) (x4 + (1 : Int32)) (upd rI 10 ((rI 10) + (1 : Int32))) rA
        ) else (
         if (rA 2 x4.toNatClampNeg) = (27 : Int32) then (
          f_X5_go0_b170 n K rc61 x1 x3 x4 (rA 2 x4.toNatClampNeg) (rA 3 x4.toNatClampNeg) (rA 4 x4.toNatClampNeg) (rA 5 x4.toNatClampNeg) (x4 + (1 : Int32)) (upd rI 10 ((rI 10) + (1 : Int32))) rA
         ) else (
          if (rA 2 x4.toNatClampNeg) = (29 : Int32) then (
           f_X5_go0_b170 n K rc61 x1 x3 x4 (rA 2 x4.toNatClampNeg) (rA 3 x4.toNatClampNeg) (rA 4 x4.toNatClampNeg) (rA 5 x4.toNatClampNeg) (x4 + (1 : Int32)) (upd rI 10 ((rI 10) + (1 : Int32))) rA
          ) else (
           f_X5_go0_b175 n K rc61 x1 x3 x4 (rA 2 x4.toNatClampNeg) (rA 3 x4.toNatClampNeg) (rA 4 x4.toNatClampNeg) (rA 5 x4.toNatClampNeg) (x4 + (1 : Int32)) (0 : Int32) (upd rI 10 ((rI 10) + (1 : Int32))) rA
          )
         )
        )
       )
      ) else (
       f_X5_go0_b170 n K rc61 x1 x3 x4 (rA 2 x4.toNatClampNeg) (rA 3 x4.toNatClampNeg) (rA 4 x4.toNatClampNeg) (rA 5 x4.toNatClampNeg) (x4 + (1 : Int32)) (upd rI 10 ((rI 10) + (1 : Int32))) rA
      )
     )
    ) else none
   ) else none
  ) else none
 ) else none
)
def f_X5_go0_l61 (n : Nat) (K : List Nat) (x1 : Int32) (x3 : Int32) (rc61 : (Int32 × (Nat → Int32) × (Nat → Nat → Int32)) → Option ((Nat → Int32) × (Nat → Nat → Int32))) : (Int32 × (Nat → Int32) × (Nat → Nat → Int32)) → Option ((Nat → Int32) × (Nat → Nat → Int32)) := fun (x4, rI, rA) => (
 if (rI 3) ≤ x4 then (
  f_X5_go0_b768 n K rI rA
 ) else (
  if x3 = 0 then (
   f_X5_go0_b82 n K rc61 x1 x3 x4 rI rA
  ) else (
   if inb x4 60 = true then (
    f_X5_go0_b82 n K rc61 x1 x3 x4 rI (up2 rA 13 x4.toNatClampNeg (vp_nar .boolean (1 : Int32)))
   ) else none
  )
 )
)
def f_X5_go0_b48 (n : Nat) (K : List Nat) (x1 : Int32) (x3 : Int32) (rI : Nat → Int32) (rA : Nat → Nat → Int32) : Option ((Nat → Int32) × (Nat → Nat → Int32)) := (
 lp (f_X5_go0_l61 n K x1 x3 ) n ((0 : Int32), (upd (upd rI 10 (0 : Int32)) 11 (0 : Int32)), rA)
)
def f_X5_go0_l27 (n : Nat) (K : List Nat) (x1 : Int32) (x3 : Int32) (rI : Nat → Int32) (rc27 : (Int32 × (Nat → Nat → Int32)) → Option ((Nat → Int32) × (Nat → Nat → Int32))) : (Int32 × (Nat → Nat → Int32)) → Option ((Nat → Int32) × (Nat → Nat → Int32)) := fun (x4, rA) => (
 if (8 : Int32) ≤ x4 then (
  f_X5_go0_b48 n K x1 x3 rI rA
 ) else (
  if inb x4 8 = true then (
   rc27 ((x4 + 1), (up2 rA 15 x4.toNatClampNeg (0 : Int32)))
  ) else none
 )
)
def f_X5_go0_b24 (n : Nat) (K : List Nat) (x1 : Int32) (x3 : Int32) (rI : Nat → Int32) (rA : Nat → Nat → Int32) : Option ((Nat → Int32) × (Nat → Nat → Int32)) := (
 lp (f_X5_go0_l27 n K x1 x3 rI) n ((0 : Int32), rA)
)
def f_X5_go0_l3 (n : Nat) (K : List Nat) (x1 : Int32) (x3 : Int32) (rI : Nat → Int32) (rc3 : (Int32 × (Nat → Nat → Int32)) → Option ((Nat → Int32) × (Nat → Nat → Int32))) : (Int32 × (Nat → Nat → Int32)) → Option ((Nat → Int32) × (Nat → Nat → Int32)) := fun (x4, rA) => (
 if (16 : Int32) ≤ x4 then (
  f_X5_go0_b24 n K x1 x3 rI rA
 ) else (
  if inb x4 16 = true then (
   rc3 ((x4 + 1), (up2 rA 14 x4.toNatClampNeg (0 : Int32)))
  ) else none
 )
)
def f_X5_go0 (n : Nat) (K : List Nat) (u1 : Int32) (u3 : Int32) (rI : Nat → Int32) (rA : Nat → Nat → Int32) : Option ((Nat → Int32) × (Nat → Nat → Int32)) := (
 lp (f_X5_go0_l3 n K u1 u3 rI) n ((0 : Int32), rA)
)
def f_X5_go1_b768 (n : Nat) (K : List Nat) (rI : Nat → Int32) (rA : Nat → Nat → Int32) (rR : Nat → Nat → Int32) : Option ((Nat → Int32) × (Nat → Nat → Int32)) := (
 (f_X5_ends K (0 : Int32) (rI 3) (0 : Int32) rI).bind fun rI1 => (
  some (rI1, rA)
 )
)
def f_X5_go1_b761 (n : Nat) (K : List Nat) (rc61 : (Int32 × (Nat → Int32) × (Nat → Nat → Int32)) → Option ((Nat → Int32) × (Nat → Nat → Int32))) (x1 : Int32) (x2 : Nat) (x3 : Int32) (x9 : Int32) (rI : Nat → Int32) (rA : Nat → Nat → Int32) (rR : Nat → Nat → Int32) : Option ((Nat → Int32) × (Nat → Nat → Int32)) := (
 rc61 (x9, rI, rA)
)
def f_X5_go1_b757 (n : Nat) (K : List Nat) (y1 : Int32) (y2 : Int32) (y3 : Int32) (rI : Nat → Int32) (rA : Nat → Nat → Int32) (rR : Nat → Nat → Int32) : Option ((Nat → Int32) × (Nat → Nat → Int32)) := (
 (f_X5_ends K y1 y2 y3 rI).bind fun rI2 => (
  some (rI2, rA)
 )
)
def f_X5_go1_b736 (n : Nat) (K : List Nat) (x4 : Int32) (x5 : Int32) (x6 : Int32) (y1 : Int32) (rI : Nat → Int32) (rA : Nat → Nat → Int32) (rR : Nat → Nat → Int32) : Option ((Nat → Int32) × (Nat → Nat → Int32)) := (
 if x5 = (30 : Int32) then (
  f_X5_go1_b757 n K y1 x4 x6 rI rA rR
 ) else (
  if inb x6 16 = true then (
   f_X5_go1_b757 n K y1 x4 (rA 14 x6.toNatClampNeg) rI rA rR
  ) else none
 )
)
def f_X5_go1_b723 (n : Nat) (K : List Nat) (x4 : Int32) (x5 : Int32) (x6 : Int32) (rI : Nat → Int32) (rA : Nat → Nat → Int32) (rR : Nat → Nat → Int32) : Option ((Nat → Int32) × (Nat → Nat → Int32)) := (
 if x5 = (30 : Int32) then (
  f_X5_go1_b736 n K x4 x5 x6 (4 : Int32) rI rA rR
 ) else (
  f_X5_go1_b736 n K x4 x5 x6 (0 : Int32) rI rA rR
 )
)
def f_X5_go1_b714 (n : Nat) (K : List Nat) (x4 : Int32) (rI : Nat → Int32) (rA : Nat → Nat → Int32) (rR : Nat → Nat → Int32) : Option ((Nat → Int32) × (Nat → Nat → Int32)) := (
 (f_X5_ends K (3 : Int32) x4 (0 : Int32) rI).bind fun rI6 => (
  some (rI6, rA)
 )
)
def f_X5_go1_b683 (n : Nat) (K : List Nat) (rc61 : (Int32 × (Nat → Int32) × (Nat → Nat → Int32)) → Option ((Nat → Int32) × (Nat → Nat → Int32))) (x1 : Int32) (x2 : Nat) (x3 : Int32) (y0 : Int32) (rI : Nat → Int32) (rA : Nat → Nat → Int32) (rR : Nat → Nat → Int32) : Option ((Nat → Int32) × (Nat → Nat → Int32)) := (
 f_X5_go1_b761 n K rc61 x1 x2 x3 y0 rI rA rR
)
def f_X5_go1_b661 (n : Nat) (K : List Nat) (rc61 : (Int32 × (Nat → Int32) × (Nat → Nat → Int32)) → Option ((Nat → Int32) × (Nat → Nat → Int32))) (x1 : Int32) (x2 : Nat) (x3 : Int32) (x9 : Int32) (rI : Nat → Int32) (rA : Nat → Nat → Int32) (rR : Nat → Nat → Int32) : Option ((Nat → Int32) × (Nat → Nat → Int32)) := (
 f_X5_go1_b761 n K rc61 x1 x2 x3 x9 rI rA rR
)
def f_X5_go1_b638 (n : Nat) (K : List Nat) (rc61 : (Int32 × (Nat → Int32) × (Nat → Nat → Int32)) → Option ((Nat → Int32) × (Nat → Nat → Int32))) (x1 : Int32) (x2 : Nat) (x3 : Int32) (x9 : Int32) (y1 : Int32) (y2 : Int32) (rI : Nat → Int32) (rA : Nat → Nat → Int32) (rR : Nat → Nat → Int32) : Option ((Nat → Int32) × (Nat → Nat → Int32)) := (
 if inb y1 16 = true then (
  f_X5_go1_b661 n K rc61 x1 x2 x3 x9 rI (up2 rA 14 y1.toNatClampNeg y2) rR
 ) else none
)
def f_X5_go1_b607 (n : Nat) (K : List Nat) (rc61 : (Int32 × (Nat → Int32) × (Nat → Nat → Int32)) → Option ((Nat → Int32) × (Nat → Nat → Int32))) (x1 : Int32) (x2 : Nat) (x3 : Int32) (x5 : Int32) (x6 : Int32) (x7 : Int32) (x9 : Int32) (x12 : Int32) (y0 : Int32) (rI : Nat → Int32) (rA : Nat → Nat → Int32) (rR : Nat → Nat → Int32) : Option ((Nat → Int32) × (Nat → Nat → Int32)) := (
 if x5 = (25 : Int32) then (
  if y0 = 0 then (
   f_X5_go1_b638 n K rc61 x1 x2 x3 x9 x6 (0 : Int32) rI rA rR
  ) else (
   if inb x12 8 = true then (
    f_X5_go1_b638 n K rc61 x1 x2 x3 x9 x6 (rA 15 x12.toNatClampNeg) rI rA rR
   ) else none
  )
 ) else (
  if y0 = 0 then (
   f_X5_go1_b661 n K rc61 x1 x2 x3 x9 rI rA rR
  ) else (
   if inb x7 16 = true then (
    if inb x12 8 = true then (
     f_X5_go1_b661 n K rc61 x1 x2 x3 x9 rI (up2 rA 15 x12.toNatClampNeg (rA 14 x7.toNatClampNeg)) rR
    ) else none
   ) else none
  )
 )
)
def f_X5_go1_b606 (n : Nat) (K : List Nat) (rc61 : (Int32 × (Nat → Int32) × (Nat → Nat → Int32)) → Option ((Nat → Int32) × (Nat → Nat → Int32))) (x1 : Int32) (x2 : Nat) (x3 : Int32) (x5 : Int32) (x6 : Int32) (x7 : Int32) (x9 : Int32) (x12 : Int32) (rI : Nat → Int32) (rA : Nat → Nat → Int32) (rR : Nat → Nat → Int32) : Option ((Nat → Int32) × (Nat → Nat → Int32)) := (
 f_X5_go1_b607 n K rc61 x1 x2 x3 x5 x6 x7 x9 x12 (0 : Int32) rI rA rR
)
def f_X5_go1_b588 (n : Nat) (K : List Nat) (rc61 : (Int32 × (Nat → Int32) × (Nat → Nat → Int32)) → Option ((Nat → Int32) × (Nat → Nat → Int32))) (x1 : Int32) (x2 : Nat) (x3 : Int32) (x5 : Int32) (x6 : Int32) (x7 : Int32) (x9 : Int32) (y0 : Int32) (rI : Nat → Int32) (rA : Nat → Nat → Int32) (rR : Nat → Nat → Int32) : Option ((Nat → Int32) × (Nat → Nat → Int32)) := (
 if y0 < 0 then (
  f_X5_go1_b606 n K rc61 x1 x2 x3 x5 x6 x7 x9 y0 rI rA rR
 ) else (
  if (8 : Int32) ≤ y0 then (
   f_X5_go1_b606 n K rc61 x1 x2 x3 x5 x6 x7 x9 y0 rI rA rR
  ) else (
   f_X5_go1_b607 n K rc61 x1 x2 x3 x5 x6 x7 x9 y0 (1 : Int32) rI rA rR
  )
 )
)
def f_X5_go1_b555 (n : Nat) (K : List Nat) (x4 : Int32) (rI : Nat → Int32) (rA : Nat → Nat → Int32) (rR : Nat → Nat → Int32) : Option ((Nat → Int32) × (Nat → Nat → Int32)) := (
 (f_X5_ends K (2 : Int32) x4 (0 : Int32) rI).bind fun rI16 => (
  some (rI16, rA)
 )
)
def f_X5_go1_b539 (n : Nat) (K : List Nat) (rc61 : (Int32 × (Nat → Int32) × (Nat → Nat → Int32)) → Option ((Nat → Int32) × (Nat → Nat → Int32))) (x1 : Int32) (x2 : Nat) (x3 : Int32) (x9 : Int32) (y1 : Int32) (y2 : Int32) (rI : Nat → Int32) (rA : Nat → Nat → Int32) (rR : Nat → Nat → Int32) : Option ((Nat → Int32) × (Nat → Nat → Int32)) := (
 if inb y1 16 = true then (
  f_X5_go1_b761 n K rc61 x1 x2 x3 x9 rI (up2 rA 14 y1.toNatClampNeg y2) rR
 ) else none
)
def f_X5_go1_b412 (n : Nat) (K : List Nat) (rc61 : (Int32 × (Nat → Int32) × (Nat → Nat → Int32)) → Option ((Nat → Int32) × (Nat → Nat → Int32))) (x1 : Int32) (x2 : Nat) (x3 : Int32) (x4 : Int32) (x5 : Int32) (x6 : Int32) (x7 : Int32) (x8 : Int32) (x9 : Int32) (x11 : Int32) (rI : Nat → Int32) (rA : Nat → Nat → Int32) (rR : Nat → Nat → Int32) : Option ((Nat → Int32) × (Nat → Nat → Int32)) := (
 if (21 : Int32) < x5 then (
  if x5 = (22 : Int32) then (
   if inb x7 16 = true then (
    if inb x6 16 = true then (
     f_X5_go1_b761 n K rc61 x1 x2 x3 x9 rI (up2 rA 14 x6.toNatClampNeg ((rA 14 x7.toNatClampNeg) ^^^ (-1 : Int32))) rR
    ) else none
   ) else none
  ) else (
   if x5 = (23 : Int32) then (
    if inb x7 16 = true then (
     if inb x6 16 = true then (
      f_X5_go1_b761 n K rc61 x1 x2 x3 x9 rI (up2 rA 14 x6.toNatClampNeg (-(rA 14 x7.toNatClampNeg))) rR
     ) else none
    ) else none
   ) else (
    if x5 = (24 : Int32) then (
     if inb x7 16 = true then (
      if (rA 14 x7.toNatClampNeg) = 0 then (
       if inb x6 16 = true then (
        f_X5_go1_b539 n K rc61 x1 x2 x3 x9 x6 (rA 14 x6.toNatClampNeg) rI rA rR
       ) else none
      ) else (
       if inb x8 16 = true then (
        f_X5_go1_b539 n K rc61 x1 x2 x3 x9 x6 (rA 14 x8.toNatClampNeg) rI rA rR
       ) else none
      )
     ) else none
    ) else (
     if (26 : Int32) < x5 then (
      if x5 = (27 : Int32) then (
       if x11 = 0 then (
        f_X5_go1_b683 n K rc61 x1 x2 x3 x9 rI rA rR
       ) else (
        f_X5_go1_b683 n K rc61 x1 x2 x3 x7 rI rA rR
       )
      ) else (
       if x5 = (28 : Int32) then (
        f_X5_go1_b761 n K rc61 x1 x2 x3 x6 rI rA rR
       ) else (
        if x5 = (29 : Int32) then (
         if x11 = 0 then (
          f_X5_go1_b714 n K x4 rI rA rR
         ) else (
          f_X5_go1_b761 n K rc61 x1 x2 x3 x9 rI rA rR
         )
        ) else (
         f_X5_go1_b723 n K x4 x5 x6 rI rA rR
        )
       )
      )
     ) else (
      if x11 = 0 then (
       f_X5_go1_b555 n K x4 rI rA rR
      ) else (
       if x5 = (25 : Int32) then (
        if inb x7 16 = true then (
         f_X5_go1_b588 n K rc61 x1 x2 x3 x5 x6 x7 x9 (rA 14 x7.toNatClampNeg) rI rA rR
        ) else none
       ) else (
        if inb x6 16 = true then (
         f_X5_go1_b588 n K rc61 x1 x2 x3 x5 x6 x7 x9 (rA 14 x6.toNatClampNeg) rI rA rR
        ) else none
       )
      )
     )
    )
   )
  )
 ) else (
  if inb x7 16 = true then (
   if inb x8 16 = true then (
    (f_X5_reckoned x5 (rA 14 x7.toNatClampNeg) (rA 14 x8.toNatClampNeg)).bind fun (r42, _u42) => (
     if inb x6 16 = true then (
      f_X5_go1_b761 n K rc61 x1 x2 x3 x9 rI (up2 rA 14 x6.toNatClampNeg r42) rR
     ) else none
    )
   ) else none
  ) else none
 )
)
def f_X5_go1_b403 (n : Nat) (K : List Nat) (x4 : Int32) (rI : Nat → Int32) (rA : Nat → Nat → Int32) (rR : Nat → Nat → Int32) : Option ((Nat → Int32) × (Nat → Nat → Int32)) := (
 (f_X5_ends K (1 : Int32) x4 (0 : Int32) rI).bind fun rI44 => (
  some (rI44, rA)
 )
)
def f_X5_go1_b327 (n : Nat) (K : List Nat) (rc61 : (Int32 × (Nat → Int32) × (Nat → Nat → Int32)) → Option ((Nat → Int32) × (Nat → Nat → Int32))) (x1 : Int32) (x2 : Nat) (x3 : Int32) (x4 : Int32) (x5 : Int32) (x6 : Int32) (x7 : Int32) (x8 : Int32) (x9 : Int32) (x11 : Int32) (rI : Nat → Int32) (rA : Nat → Nat → Int32) (rR : Nat → Nat → Int32) : Option ((Nat → Int32) × (Nat → Nat → Int32)) := (
 if x5 = 0 then (
  if inb x6 16 = true then (
   f_X5_go1_b761 n K rc61 x1 x2 x3 x9 rI (up2 rA 14 x6.toNatClampNeg x7) rR
  ) else none
 ) else (
  if x5 = (1 : Int32) then (
   (f_X5_inputOf n K x1 x7 rI rA).bind fun (r53, _u53) => (
    if inb x6 16 = true then (
     f_X5_go1_b761 n K rc61 x1 x2 x3 x9 rI (up2 rA 14 x6.toNatClampNeg r53) rR
    ) else none
   )
  ) else (
   if x5 = (2 : Int32) then (
    if inb x7 16 = true then (
     if inb x6 16 = true then (
      f_X5_go1_b761 n K rc61 x1 x2 x3 x9 rI (up2 rA 14 x6.toNatClampNeg (rA 14 x7.toNatClampNeg)) rR
     ) else none
    ) else none
   ) else (
    (f_X5_isDivision x5).bind fun (r48, _u48) => (
     if r48 = 0 then (
      f_X5_go1_b412 n K rc61 x1 x2 x3 x4 x5 x6 x7 x8 x9 x11 rI rA rR
     ) else (
      if x11 = 0 then (
       f_X5_go1_b403 n K x4 rI rA rR
      ) else (
       f_X5_go1_b412 n K rc61 x1 x2 x3 x4 x5 x6 x7 x8 x9 x11 rI rA rR
      )
     )
    )
   )
  )
 )
)
def f_X5_go1_b298 (n : Nat) (K : List Nat) (rc61 : (Int32 × (Nat → Int32) × (Nat → Nat → Int32)) → Option ((Nat → Int32) × (Nat → Nat → Int32))) (x1 : Int32) (x2 : Nat) (x3 : Int32) (x4 : Int32) (x5 : Int32) (x6 : Int32) (x7 : Int32) (x8 : Int32) (x9 : Int32) (x11 : Int32) (rI : Nat → Int32) (rA : Nat → Nat → Int32) (rR : Nat → Nat → Int32) : Option ((Nat → Int32) × (Nat → Nat → Int32)) := (
 (f_X5_truth x11).bind fun (r56, _u56) => (
  if inb (rI 11) 60 = true then (
   f_X5_go1_b327 n K rc61 x1 x2 x3 x4 x5 x6 x7 x8 x9 x11 (upd rI 11 ((rI 11) + (1 : Int32))) (up2 rA 16 (rI 11).toNatClampNeg (((2 : Int32) * x4) + r56)) rR
  ) else none
 )
)
def f_X5_go1_b296 (n : Nat) (K : List Nat) (rc61 : (Int32 × (Nat → Int32) × (Nat → Nat → Int32)) → Option ((Nat → Int32) × (Nat → Nat → Int32))) (x1 : Int32) (x2 : Nat) (x3 : Int32) (x4 : Int32) (x5 : Int32) (x6 : Int32) (x7 : Int32) (x8 : Int32) (x9 : Int32) (y0 : Int32) (rI : Nat → Int32) (rA : Nat → Nat → Int32) (rR : Nat → Nat → Int32) : Option ((Nat → Int32) × (Nat → Nat → Int32)) := (
 f_X5_go1_b298 n K rc61 x1 x2 x3 x4 x5 x6 x7 x8 x9 y0 rI rA rR
)
def f_X5_go1_b273 (n : Nat) (K : List Nat) (rc61 : (Int32 × (Nat → Int32) × (Nat → Nat → Int32)) → Option ((Nat → Int32) × (Nat → Nat → Int32))) (x1 : Int32) (x2 : Nat) (x3 : Int32) (x4 : Int32) (x5 : Int32) (x6 : Int32) (x7 : Int32) (x8 : Int32) (x9 : Int32) (y0 : Int32) (rI : Nat → Int32) (rA : Nat → Nat → Int32) (rR : Nat → Nat → Int32) : Option ((Nat → Int32) × (Nat → Nat → Int32)) := (
 if x2 ∈ K then (
  if inb (rI 11) 60 = true then (
   if ¬ (2 : Int32) = 0 then (
    if ((rR x2 (rI 11).toNatClampNeg) - (rR x2 (rI 11).toNatClampNeg) / (2 : Int32) * (2 : Int32)) = (1 : Int32) then (
     f_X5_go1_b296 n K rc61 x1 x2 x3 x4 x5 x6 x7 x8 x9 (1 : Int32) rI rA rR
    ) else (
     f_X5_go1_b296 n K rc61 x1 x2 x3 x4 x5 x6 x7 x8 x9 (0 : Int32) rI rA rR
    )
   ) else none
  ) else none
 ) else none
)
def f_X5_go1_b259 (n : Nat) (K : List Nat) (rc61 : (Int32 × (Nat → Int32) × (Nat → Nat → Int32)) → Option ((Nat → Int32) × (Nat → Nat → Int32))) (x1 : Int32) (x2 : Nat) (x3 : Int32) (x4 : Int32) (x5 : Int32) (x6 : Int32) (x7 : Int32) (x8 : Int32) (x9 : Int32) (rI : Nat → Int32) (rA : Nat → Nat → Int32) (rR : Nat → Nat → Int32) : Option ((Nat → Int32) × (Nat → Nat → Int32)) := (
 f_X5_go1_b273 n K rc61 x1 x2 x3 x4 x5 x6 x7 x8 x9 (0 : Int32) rI rA rR
)
def f_X5_go1_b243 (n : Nat) (K : List Nat) (rc61 : (Int32 × (Nat → Int32) × (Nat → Nat → Int32)) → Option ((Nat → Int32) × (Nat → Nat → Int32))) (x1 : Int32) (x2 : Nat) (x3 : Int32) (x4 : Int32) (x5 : Int32) (x6 : Int32) (x7 : Int32) (x8 : Int32) (x9 : Int32) (x12 : Int32) (rI : Nat → Int32) (rA : Nat → Nat → Int32) (rR : Nat → Nat → Int32) : Option ((Nat → Int32) × (Nat → Nat → Int32)) := (
 if x12 < 0 then (
  f_X5_go1_b259 n K rc61 x1 x2 x3 x4 x5 x6 x7 x8 x9 rI rA rR
 ) else (
  if (8 : Int32) ≤ x12 then (
   f_X5_go1_b259 n K rc61 x1 x2 x3 x4 x5 x6 x7 x8 x9 rI rA rR
  ) else (
   f_X5_go1_b273 n K rc61 x1 x2 x3 x4 x5 x6 x7 x8 x9 (1 : Int32) rI rA rR
  )
 )
)
def f_X5_go1_b227 (n : Nat) (K : List Nat) (rc61 : (Int32 × (Nat → Int32) × (Nat → Nat → Int32)) → Option ((Nat → Int32) × (Nat → Nat → Int32))) (x1 : Int32) (x2 : Nat) (x3 : Int32) (x4 : Int32) (x5 : Int32) (x6 : Int32) (x7 : Int32) (x8 : Int32) (x9 : Int32) (y0 : Int32) (rI : Nat → Int32) (rA : Nat → Nat → Int32) (rR : Nat → Nat → Int32) : Option ((Nat → Int32) × (Nat → Nat → Int32)) := (
 if x5 = (25 : Int32) then (
  f_X5_go1_b243 n K rc61 x1 x2 x3 x4 x5 x6 x7 x8 x9 y0 rI rA rR
 ) else (
  if x5 = (26 : Int32) then (
   f_X5_go1_b243 n K rc61 x1 x2 x3 x4 x5 x6 x7 x8 x9 y0 rI rA rR
  ) else (
   if y0 = 0 then (
    f_X5_go1_b273 n K rc61 x1 x2 x3 x4 x5 x6 x7 x8 x9 (0 : Int32) rI rA rR
   ) else (
    f_X5_go1_b273 n K rc61 x1 x2 x3 x4 x5 x6 x7 x8 x9 (1 : Int32) rI rA rR
   )
  )
 )
)
def f_X5_go1_b175 (n : Nat) (K : List Nat) (rc61 : (Int32 × (Nat → Int32) × (Nat → Nat → Int32)) → Option ((Nat → Int32) × (Nat → Nat → Int32))) (x1 : Int32) (x2 : Nat) (x3 : Int32) (x4 : Int32) (x5 : Int32) (x6 : Int32) (x7 : Int32) (x8 : Int32) (x9 : Int32) (y0 : Int32) (rI : Nat → Int32) (rA : Nat → Nat → Int32) (rR : Nat → Nat → Int32) : Option ((Nat → Int32) × (Nat → Nat → Int32)) := (
 if y0 = 0 then (
  f_X5_go1_b327 n K rc61 x1 x2 x3 x4 x5 x6 x7 x8 x9 (0 : Int32) rI rA rR
 ) else (
  (f_X5_isDivision x5).bind fun (r69, _u69) => (
   if r69 = 0 then (
    if x5 = (25 : Int32) then (
     if inb x7 16 = true then (
      f_X5_go1_b227 n K rc61 x1 x2 x3 x4 x5 x6 x7 x8 x9 (rA 14 x7.toNatClampNeg) rI rA rR
     ) else none
    ) else (
     if inb x6 16 = true then (
      f_X5_go1_b227 n K rc61 x1 x2 x3 x4 x5 x6 x7 x8 x9 (rA 14 x6.toNatClampNeg) rI rA rR
     ) else none
    )
   ) else (
    if inb x8 16 = true then (
     f_X5_go1_b227 n K rc61 x1 x2 x3 x4 x5 x6 x7 x8 x9 (rA 14 x8.toNatClampNeg) rI rA rR
    ) else none
   )
  )
 )
)
def f_X5_go1_b170 (n : Nat) (K : List Nat) (rc61 : (Int32 × (Nat → Int32) × (Nat → Nat → Int32)) → Option ((Nat → Int32) × (Nat → Nat → Int32))) (x1 : Int32) (x2 : Nat) (x3 : Int32) (x4 : Int32) (x5 : Int32) (x6 : Int32) (x7 : Int32) (x8 : Int32) (x9 : Int32) (rI : Nat → Int32) (rA : Nat → Nat → Int32) (rR : Nat → Nat → Int32) : Option ((Nat → Int32) × (Nat → Nat → Int32)) := (
 f_X5_go1_b175 n K rc61 x1 x2 x3 x4 x5 x6 x7 x8 x9 (1 : Int32) rI rA rR
)
def f_X5_go1_b82 (n : Nat) (K : List Nat) (rc61 : (Int32 × (Nat → Int32) × (Nat → Nat → Int32)) → Option ((Nat → Int32) × (Nat → Nat → Int32))) (x1 : Int32) (x2 : Nat) (x3 : Int32) (x4 : Int32) (rI : Nat → Int32) (rA : Nat → Nat → Int32) (rR : Nat → Nat → Int32) : Option ((Nat → Int32) × (Nat → Nat → Int32)) := (
 if inb x4 60 = true then (
  if inb x4 60 = true then (
   if inb x4 60 = true then (
    if inb x4 60 = true then (
     (f_X5_isDivision (rA 2 x4.toNatClampNeg)).bind fun (r79, _u79) => (
      if r79 = 0 then (
       if (rA 2 x4.toNatClampNeg) = (25 : Int32) then (
        f_X5_go1_b170 n K rc61 x1 x2 x3 x4 (rA 2 x4.toNatClampNeg) (rA 3 x4.toNatClampNeg) (rA 4 x4.toNatClampNeg) (rA 5 x4.toNatClampNeg) (x4 + (1 : Int32)) (upd rI 10 ((rI 10) + (1 : Int32))) rA rR
       ) else (
        if (rA 2 x4.toNatClampNeg) = (26 : Int32) then (
         f_X5_go1_b170 n K rc61 x1 x2 x3 x4 (rA 2 x4.toNatClampNeg) (rA 3 x4.toNatClampNeg) (rA 4 x4.toNatClampNeg) (rA 5 x4.toNatClampNeg) (x4 + (1 : Int32)) (upd rI 10 ((rI 10) + (1 : Int32))) rA rR
        ) else (
         if (rA 2 x4.toNatClampNeg) = (27 : Int32) then (
          f_X5_go1_b170 n K rc61 x1 x2 x3 x4 (rA 2 x4.toNatClampNeg) (rA 3 x4.toNatClampNeg) (rA 4 x4.toNatClampNeg) (rA 5 x4.toNatClampNeg) (x4 + (1 : Int32)) (upd rI 10 ((rI 10) + (1 : Int32))) rA rR
         ) else (
          if (rA 2 x4.toNatClampNeg) = (29 : Int32) then (
           f_X5_go1_b170 n K rc61 x1 x2 x3 x4 (rA 2 x4.toNatClampNeg) (rA 3 x4.toNatClampNeg) (rA 4 x4.toNatClampNeg) (rA 5 x4.toNatClampNeg) (x4 + (1 : Int32)) (upd rI 10 ((rI 10) + (1 : Int32))) rA rR
          ) else (
           f_X5_go1_b175 n K rc61 x1 x2 x3 x4 (rA 2 x4.toNatClampNeg) (rA 3 x4.toNatClampNeg) (rA 4 x4.toNatClampNeg) (rA 5 x4.toNatClampNeg) (x4 + (1 : Int32)) (0 : Int32) (upd rI 10 ((rI 10) + (1 : Int32))) rA rR
          )
         )
        )
       )
      ) else (
       f_X5_go1_b170 n K rc61 x1 x2 x3 x4 (rA 2 x4.toNatClampNeg) (rA 3 x4.toNatClampNeg) (rA 4 x4.toNatClampNeg) (rA 5 x4.toNatClampNeg) (x4 + (1 : Int32)) (upd rI 10 ((rI 10) + (1 : Int32))) rA rR
      )
     )
    ) else none
   ) else none
  ) else none
 ) else none
)
def f_X5_go1_l61 (n : Nat) (K : List Nat) (x1 : Int32) (x2 : Nat) (x3 : Int32) (rR : Nat → Nat → Int32) (rc61 : (Int32 × (Nat → Int32) × (Nat → Nat → Int32)) → Option ((Nat → Int32) × (Nat → Nat → Int32))) : (Int32 × (Nat → Int32) × (Nat → Nat → Int32)) → Option ((Nat → Int32) × (Nat → Nat → Int32)) := fun (x4, rI, rA) => (
 if (rI 3) ≤ x4 then (
  f_X5_go1_b768 n K rI rA rR
 ) else (
  if x3 = 0 then (
   f_X5_go1_b82 n K rc61 x1 x2 x3 x4 rI rA rR
  ) else (
   if inb x4 60 = true then (
    f_X5_go1_b82 n K rc61 x1 x2 x3 x4 rI (up2 rA 13 x4.toNatClampNeg (vp_nar .boolean (1 : Int32))) rR
   ) else none
  )
 )
)
def f_X5_go1_b48 (n : Nat) (K : List Nat) (x1 : Int32) (x2 : Nat) (x3 : Int32) (rI : Nat → Int32) (rA : Nat → Nat → Int32) (rR : Nat → Nat → Int32) : Option ((Nat → Int32) × (Nat → Nat → Int32)) := (
 lp (f_X5_go1_l61 n K x1 x2 x3 rR) n ((0 : Int32), (upd (upd rI 10 (0 : Int32)) 11 (0 : Int32)), rA)
)
def f_X5_go1_l27 (n : Nat) (K : List Nat) (x1 : Int32) (x2 : Nat) (x3 : Int32) (rI : Nat → Int32) (rR : Nat → Nat → Int32) (rc27 : (Int32 × (Nat → Nat → Int32)) → Option ((Nat → Int32) × (Nat → Nat → Int32))) : (Int32 × (Nat → Nat → Int32)) → Option ((Nat → Int32) × (Nat → Nat → Int32)) := fun (x4, rA) => (
 if (8 : Int32) ≤ x4 then (
  f_X5_go1_b48 n K x1 x2 x3 rI rA rR
 ) else (
  if inb x4 8 = true then (
   rc27 ((x4 + 1), (up2 rA 15 x4.toNatClampNeg (0 : Int32)))
  ) else none
 )
)
def f_X5_go1_b24 (n : Nat) (K : List Nat) (x1 : Int32) (x2 : Nat) (x3 : Int32) (rI : Nat → Int32) (rA : Nat → Nat → Int32) (rR : Nat → Nat → Int32) : Option ((Nat → Int32) × (Nat → Nat → Int32)) := (
 lp (f_X5_go1_l27 n K x1 x2 x3 rI rR) n ((0 : Int32), rA)
)
def f_X5_go1_l3 (n : Nat) (K : List Nat) (x1 : Int32) (x2 : Nat) (x3 : Int32) (rI : Nat → Int32) (rR : Nat → Nat → Int32) (rc3 : (Int32 × (Nat → Nat → Int32)) → Option ((Nat → Int32) × (Nat → Nat → Int32))) : (Int32 × (Nat → Nat → Int32)) → Option ((Nat → Int32) × (Nat → Nat → Int32)) := fun (x4, rA) => (
 if (16 : Int32) ≤ x4 then (
  f_X5_go1_b24 n K x1 x2 x3 rI rA rR
 ) else (
  if inb x4 16 = true then (
   rc3 ((x4 + 1), (up2 rA 14 x4.toNatClampNeg (0 : Int32)))
  ) else none
 )
)
def f_X5_go1 (n : Nat) (K : List Nat) (u1 : Int32) (u2 : Nat) (u3 : Int32) (rI : Nat → Int32) (rA : Nat → Nat → Int32) (rR : Nat → Nat → Int32) : Option ((Nat → Int32) × (Nat → Nat → Int32)) := (
 lp (f_X5_go1_l3 n K u1 u2 u3 rI rR) n ((0 : Int32), rA)
)
def f_X5_isPath_b55 (n : Nat) (K : List Nat) (rc21 : (Int32 × Int32) → Option (Int32 × Unit)) (x1 : Int32) (x3 : Int32) (y0 : Int32) (rI : Nat → Int32) (rA : Nat → Nat → Int32) (rG : Nat → Option Nat) (rR : Nat → Nat → Int32) : Option (Int32 × Unit) := (
 rc21 (y0, (x3 + 1))
)
def f_X5_isPath_l21 (n : Nat) (K : List Nat) (x1 : Int32) (rI : Nat → Int32) (rA : Nat → Nat → Int32) (rG : Nat → Option Nat) (rR : Nat → Nat → Int32) (rc21 : (Int32 × Int32) → Option (Int32 × Unit)) : (Int32 × Int32) → Option (Int32 × Unit) := fun (x2, x3) => (
 if (rI 11) ≤ x3 then (
  if x2 = 0 ∨ x2 = 1 then some (x2, ()) else none
 ) else (
  if x2 = 0 then (
   if x2 = 0 ∨ x2 = 1 then some (x2, ()) else none
  ) else (
   if inb x1 40 = true then (
    (rG x1.toNatClampNeg).bind fun a4 => (
     if a4 ∈ K then (
      if inb x3 60 = true then (
       if inb x3 60 = true then (
        if (rR a4 x3.toNatClampNeg) = (rA 16 x3.toNatClampNeg) then (
         f_X5_isPath_b55 n K rc21 x1 x3 (1 : Int32) rI rA rG rR
        ) else (
         f_X5_isPath_b55 n K rc21 x1 x3 (0 : Int32) rI rA rG rR
        )
       ) else none
      ) else none
     ) else none
    )
   ) else none
  )
 )
)
def f_X5_isPath_b18 (n : Nat) (K : List Nat) (x1 : Int32) (y0 : Int32) (rI : Nat → Int32) (rA : Nat → Nat → Int32) (rG : Nat → Option Nat) (rR : Nat → Nat → Int32) : Option (Int32 × Unit) := (
 lp (f_X5_isPath_l21 n K x1 rI rA rG rR) n (y0, (0 : Int32))
)
def f_X5_isPath (n : Nat) (K : List Nat) (u1 : Int32) (rI : Nat → Int32) (rA : Nat → Nat → Int32) (rG : Nat → Option Nat) (rR : Nat → Nat → Int32) : Option (Int32 × Unit) := (
 if inb u1 40 = true then (
  if (rA 8 u1.toNatClampNeg) = (rI 11) then (
   f_X5_isPath_b18 n K u1 (1 : Int32) rI rA rG rR
  ) else (
   f_X5_isPath_b18 n K u1 (0 : Int32) rI rA rG rR
  )
 ) else none
)
def f_X5_isAhead_b47 (n : Nat) (K : List Nat) (x1 : Int32) (x2 : Int32) (x3 : Int32) (rA : Nat → Nat → Int32) (rG : Nat → Option Nat) (rR : Nat → Nat → Int32) : Option (Int32 × Unit) := (
 if inb x1 40 = true then (
  if (rA 8 x1.toNatClampNeg) ≤ x3 then (
   some ((0 : Int32), ())
  ) else (
   if inb x2 40 = true then (
    if (rA 8 x2.toNatClampNeg) ≤ x3 then (
     some ((0 : Int32), ())
    ) else (
     if inb x1 40 = true then (
      (rG x1.toNatClampNeg).bind fun a6 => (
       if a6 ∈ K then (
        if inb x3 60 = true then (
         if inb x2 40 = true then (
          (rG x2.toNatClampNeg).bind fun a12 => (
           if a12 ∈ K then (
            if inb x3 60 = true then (
             if (rR a6 x3.toNatClampNeg) ≤ (rR a12 x3.toNatClampNeg) then (
              some ((0 : Int32), ())
             ) else (
              some ((1 : Int32), ())
             )
            ) else none
           ) else none
          )
         ) else none
        ) else none
       ) else none
      )
     ) else none
    )
   ) else none
  )
 ) else none
)
def f_X5_isAhead_l2 (n : Nat) (K : List Nat) (x1 : Int32) (x2 : Int32) (rA : Nat → Nat → Int32) (rG : Nat → Option Nat) (rR : Nat → Nat → Int32) (rc2 : (Int32) → Option (Int32 × Unit)) : (Int32) → Option (Int32 × Unit) := fun x3 => (
 if inb x1 40 = true then (
  if (rA 8 x1.toNatClampNeg) ≤ x3 then (
   f_X5_isAhead_b47 n K x1 x2 x3 rA rG rR
  ) else (
   if inb x2 40 = true then (
    if (rA 8 x2.toNatClampNeg) ≤ x3 then (
     f_X5_isAhead_b47 n K x1 x2 x3 rA rG rR
    ) else (
     if inb x1 40 = true then (
      (rG x1.toNatClampNeg).bind fun a23 => (
       if a23 ∈ K then (
        if inb x3 60 = true then (
         if inb x2 40 = true then (
          (rG x2.toNatClampNeg).bind fun a29 => (
           if a29 ∈ K then (
            if inb x3 60 = true then (
             if (rR a23 x3.toNatClampNeg) = (rR a29 x3.toNatClampNeg) then (
              rc2 ((x3 + 1))
             ) else (
              f_X5_isAhead_b47 n K x1 x2 x3 rA rG rR
             )
            ) else none
           ) else none
          )
         ) else none
        ) else none
       ) else none
      )
     ) else none
    )
   ) else none
  )
 ) else none
)
def f_X5_isAhead (n : Nat) (K : List Nat) (u1 : Int32) (u2 : Int32) (rA : Nat → Nat → Int32) (rG : Nat → Option Nat) (rR : Nat → Nat → Int32) : Option (Int32 × Unit) := (
 lp (f_X5_isAhead_l2 n K u1 u2 rA rG rR) n ((0 : Int32))
)
def f_X5_exchange_b173 (n : Nat) (K : List Nat) (rc121 : (Int32 × (Nat → Nat → Int32)) → Option ((Nat → Nat → Int32) × (Nat → Nat → Int32))) (x1 : Int32) (x2 : Int32) (x4 : Int32) (y1 : Int32) (y2 : Int32) (rI : Nat → Int32) (rA : Nat → Nat → Int32) (rG : Nat → Option Nat) (rR : Nat → Nat → Int32) : Option ((Nat → Nat → Int32) × (Nat → Nat → Int32)) := (
 if inb y1 4096 = true then (
  rc121 ((x4 + 1), (up2 rA 11 y1.toNatClampNeg y2))
 ) else none
)
def f_X5_exchange_l121 (n : Nat) (K : List Nat) (x1 : Int32) (x2 : Int32) (rI : Nat → Int32) (rG : Nat → Option Nat) (rR : Nat → Nat → Int32) (rc121 : (Int32 × (Nat → Nat → Int32)) → Option ((Nat → Nat → Int32) × (Nat → Nat → Int32))) : (Int32 × (Nat → Nat → Int32)) → Option ((Nat → Nat → Int32) × (Nat → Nat → Int32)) := fun (x4, rA) => (
 (f_X5_words K rI).bind fun (r2, _u2) => (
  if r2 ≤ x4 then (
   some (rA, rR)
  ) else (
   if inb x4 4096 = true then (
    if (rA 11 x4.toNatClampNeg) = x1 then (
     f_X5_exchange_b173 n K rc121 x1 x2 x4 x4 x2 rI rA rG rR
    ) else (
     if inb x4 4096 = true then (
      if (rA 11 x4.toNatClampNeg) = x2 then (
       f_X5_exchange_b173 n K rc121 x1 x2 x4 x4 x1 rI rA rG rR
      ) else (
       if inb x4 4096 = true then (
        f_X5_exchange_b173 n K rc121 x1 x2 x4 x4 (rA 11 x4.toNatClampNeg) rI rA rG rR
       ) else none
      )
     ) else none
    )
   ) else none
  )
 )
)
def f_X5_exchange_b118 (n : Nat) (K : List Nat) (x1 : Int32) (x2 : Int32) (rI : Nat → Int32) (rA : Nat → Nat → Int32) (rG : Nat → Option Nat) (rR : Nat → Nat → Int32) : Option ((Nat → Nat → Int32) × (Nat → Nat → Int32)) := (
 lp (f_X5_exchange_l121 n K x1 x2 rI rG rR) n ((0 : Int32), rA)
)
def f_X5_exchange_l65 (n : Nat) (K : List Nat) (x1 : Int32) (x2 : Int32) (rI : Nat → Int32) (rA : Nat → Nat → Int32) (rG : Nat → Option Nat) (rc65 : (Int32 × (Nat → Nat → Int32)) → Option ((Nat → Nat → Int32) × (Nat → Nat → Int32))) : (Int32 × (Nat → Nat → Int32)) → Option ((Nat → Nat → Int32) × (Nat → Nat → Int32)) := fun (x4, rR) => (
 if (60 : Int32) ≤ x4 then (
  f_X5_exchange_b118 n K x1 x2 rI rA rG rR
 ) else (
  if inb x1 40 = true then (
   (rG x1.toNatClampNeg).bind fun a11 => (
    if a11 ∈ K then (
     if inb x4 60 = true then (
      if inb x1 40 = true then (
       (rG x1.toNatClampNeg).bind fun a17 => (
        if a17 ∈ K then (
         if inb x2 40 = true then (
          (rG x2.toNatClampNeg).bind fun a21 => (
           if a21 ∈ K then (
            if inb x4 60 = true then (
             if inb x4 60 = true then (
              if inb x2 40 = true then (
               (rG x2.toNatClampNeg).bind fun a29 => (
                if a29 ∈ K then (
                 (some (up2 rR a17 x4.toNatClampNeg (rR a21 x4.toNatClampNeg))).bind fun rR_33 => (
                  if inb x4 60 = true then (
                   rc65 ((x4 + 1), (up2 rR_33 a29 x4.toNatClampNeg (rR a11 x4.toNatClampNeg)))
                  ) else none
                 )
                ) else none
               )
              ) else none
             ) else none
            ) else none
           ) else none
          )
         ) else none
        ) else none
       )
      ) else none
     ) else none
    ) else none
   )
  ) else none
 )
)
def f_X5_exchange (n : Nat) (K : List Nat) (u1 : Int32) (u2 : Int32) (rI : Nat → Int32) (rA : Nat → Nat → Int32) (rG : Nat → Option Nat) (rR : Nat → Nat → Int32) : Option ((Nat → Nat → Int32) × (Nat → Nat → Int32)) := (
 (f_X5_turn7 K u1 u2 rA).bind fun rA36 => (
  (f_X5_turn8 K u1 u2 rA36).bind fun rA37 => (
   (f_X5_turn9 K u1 u2 rA37).bind fun rA38 => (
    (f_X5_turn10 K u1 u2 rA38).bind fun rA39 => (
     if inb u1 40 = true then (
      if inb u2 40 = true then (
       if inb u1 40 = true then (
        (some (up2 rA39 10 u1.toNatClampNeg (vp_nar .boolean (rA39 10 u2.toNatClampNeg)))).bind fun rA_44 => (
         if inb u2 40 = true then (
          lp (f_X5_exchange_l65 n K u1 u2 rI (up2 rA_44 10 u2.toNatClampNeg (vp_nar .boolean (rA39 10 u1.toNatClampNeg))) rG) n ((0 : Int32), rR)
         ) else none
        )
       ) else none
      ) else none
     ) else none
    )
   )
  )
 )
)
def f_X5_order_b43 (n : Nat) (K : List Nat) (rc2 : (Int32 × (Nat → Nat → Int32) × (Nat → Nat → Int32)) → Option ((Nat → Nat → Int32) × (Nat → Nat → Int32))) (x1 : Int32) (rI : Nat → Int32) (rA : Nat → Nat → Int32) (rG : Nat → Option Nat) (rR : Nat → Nat → Int32) : Option ((Nat → Nat → Int32) × (Nat → Nat → Int32)) := (
 rc2 ((x1 + 1), rA, rR)
)
def f_X5_order_b37 (n : Nat) (K : List Nat) (rc2 : (Int32 × (Nat → Nat → Int32) × (Nat → Nat → Int32)) → Option ((Nat → Nat → Int32) × (Nat → Nat → Int32))) (rc14 : (Int32 × (Nat → Nat → Int32) × (Nat → Nat → Int32)) → Option ((Nat → Nat → Int32) × (Nat → Nat → Int32))) (x1 : Int32) (x2 : Int32) (rI : Nat → Int32) (rA : Nat → Nat → Int32) (rG : Nat → Option Nat) (rR : Nat → Nat → Int32) : Option ((Nat → Nat → Int32) × (Nat → Nat → Int32)) := (
 rc14 ((x2 + 1), rA, rR)
)
def f_X5_order_l14 (n : Nat) (K : List Nat) (rc2 : (Int32 × (Nat → Nat → Int32) × (Nat → Nat → Int32)) → Option ((Nat → Nat → Int32) × (Nat → Nat → Int32))) (x1 : Int32) (rI : Nat → Int32) (rG : Nat → Option Nat) (rc14 : (Int32 × (Nat → Nat → Int32) × (Nat → Nat → Int32)) → Option ((Nat → Nat → Int32) × (Nat → Nat → Int32))) : (Int32 × (Nat → Nat → Int32) × (Nat → Nat → Int32)) → Option ((Nat → Nat → Int32) × (Nat → Nat → Int32)) := fun (x2, rA, rR) => (
 if (rI 6) ≤ x2 then (
  f_X5_order_b43 n K rc2 x1 rI rA rG rR
 ) else (
  (f_X5_isAhead n K x2 x1 rA rG rR).bind fun (r2, _u2) => (
   if r2 = 0 then (
    f_X5_order_b37 n K rc2 rc14 x1 x2 rI rA rG rR
   ) else (
    (f_X5_exchange n K x1 x2 rI rA rG rR).bind fun (rA4, rR4) => (
     f_X5_order_b37 n K rc2 rc14 x1 x2 rI rA4 rG rR4
    )
   )
  )
 )
)
def f_X5_order_l2 (n : Nat) (K : List Nat) (rI : Nat → Int32) (rG : Nat → Option Nat) (rc2 : (Int32 × (Nat → Nat → Int32) × (Nat → Nat → Int32)) → Option ((Nat → Nat → Int32) × (Nat → Nat → Int32))) : (Int32 × (Nat → Nat → Int32) × (Nat → Nat → Int32)) → Option ((Nat → Nat → Int32) × (Nat → Nat → Int32)) := fun (x1, rA, rR) => (
 if (rI 6) ≤ x1 then (
  some (rA, rR)
 ) else (
  lp (f_X5_order_l14 n K rc2 x1 rI rG) n ((x1 + (1 : Int32)), rA, rR)
 )
)
def f_X5_order (n : Nat) (K : List Nat) (rI : Nat → Int32) (rA : Nat → Nat → Int32) (rG : Nat → Option Nat) (rR : Nat → Nat → Int32) : Option ((Nat → Nat → Int32) × (Nat → Nat → Int32)) := (
 lp (f_X5_order_l2 n K rI rG) n ((0 : Int32), rA, rR)
)
def f_X5_explore_b221 (n : Nat) (K : List Nat) (x1 : Int32) (rI : Nat → Int32) (rA : Nat → Nat → Int32) (rG : Nat → Option Nat) (rR : Nat → Nat → Int32) : Option (Int32 × (Nat → Int32) × (Nat → Nat → Int32) × (Nat → Nat → Int32)) := (
 (f_X5_order n K (upd rI 6 x1) rA rG rR).bind fun (rA1, rR1) => (
  some (x1, ((upd rI 6 x1), rA1, rR1))
 )
)
def f_X5_explore_b214 (n : Nat) (K : List Nat) (rc30 : (Int32 × Int32 × (Nat → Int32) × (Nat → Nat → Int32) × (Nat → Nat → Int32)) → Option (Int32 × (Nat → Int32) × (Nat → Nat → Int32) × (Nat → Nat → Int32))) (x1 : Int32) (x2 : Int32) (y1 : Int32) (y2 : Int32) (rI : Nat → Int32) (rA : Nat → Nat → Int32) (rG : Nat → Option Nat) (rR : Nat → Nat → Int32) : Option (Int32 × (Nat → Int32) × (Nat → Nat → Int32) × (Nat → Nat → Int32)) := (
 if inb y1 40 = true then (
  rc30 (x1, (x2 + 1), rI, (up2 rA 10 y1.toNatClampNeg (vp_nar .boolean y2)), rR)
 ) else none
)
def f_X5_explore_b213 (n : Nat) (K : List Nat) (rc30 : (Int32 × Int32 × (Nat → Int32) × (Nat → Nat → Int32) × (Nat → Nat → Int32)) → Option (Int32 × (Nat → Int32) × (Nat → Nat → Int32) × (Nat → Nat → Int32))) (x1 : Int32) (x2 : Int32) (y1 : Int32) (rI : Nat → Int32) (rA : Nat → Nat → Int32) (rG : Nat → Option Nat) (rR : Nat → Nat → Int32) : Option (Int32 × (Nat → Int32) × (Nat → Nat → Int32) × (Nat → Nat → Int32)) := (
 f_X5_explore_b214 n K rc30 x1 x2 y1 (0 : Int32) rI rA rG rR
)
def f_X5_explore_b160 (n : Nat) (K : List Nat) (rc30 : (Int32 × Int32 × (Nat → Int32) × (Nat → Nat → Int32) × (Nat → Nat → Int32)) → Option (Int32 × (Nat → Int32) × (Nat → Nat → Int32) × (Nat → Nat → Int32))) (x1 : Int32) (x2 : Int32) (x3 : Int32) (rI : Nat → Int32) (rA : Nat → Nat → Int32) (rG : Nat → Option Nat) (rR : Nat → Nat → Int32) : Option (Int32 × (Nat → Int32) × (Nat → Nat → Int32) × (Nat → Nat → Int32)) := (
 if inb x2 4096 = true then (
  (some (up2 rA 11 x2.toNatClampNeg x3)).bind fun rA_5 => (
   if inb x2 4096 = true then (
    if inb x3 40 = true then (
     if ((up2 rA_5 12 x2.toNatClampNeg (rI 9)) 10 x3.toNatClampNeg) = 0 then (
      f_X5_explore_b213 n K rc30 x1 x2 x3 rI (up2 rA_5 12 x2.toNatClampNeg (rI 9)) rG rR
     ) else (
      if inb x3 40 = true then (
       if inb ((up2 rA_5 12 x2.toNatClampNeg (rI 9)) 9 x3.toNatClampNeg) 4096 = true then (
        if (rI 9) = ((up2 rA_5 12 x2.toNatClampNeg (rI 9)) 12 ((up2 rA_5 12 x2.toNatClampNeg (rI 9)) 9 x3.toNatClampNeg).toNatClampNeg) then (
         f_X5_explore_b214 n K rc30 x1 x2 x3 (1 : Int32) rI (up2 rA_5 12 x2.toNatClampNeg (rI 9)) rG rR
        ) else (
         f_X5_explore_b213 n K rc30 x1 x2 x3 rI (up2 rA_5 12 x2.toNatClampNeg (rI 9)) rG rR
        )
       ) else none
      ) else none
     )
    ) else none
   ) else none
  )
 ) else none
)
def f_X5_explore_b126 (n : Nat) (K : List Nat) (rc30 : (Int32 × Int32 × (Nat → Int32) × (Nat → Nat → Int32) × (Nat → Nat → Int32)) → Option (Int32 × (Nat → Int32) × (Nat → Nat → Int32) × (Nat → Nat → Int32))) (x1 : Int32) (x2 : Int32) (x3 : Int32) (rI : Nat → Int32) (rA : Nat → Nat → Int32) (rG : Nat → Option Nat) (rR : Nat → Nat → Int32) : Option (Int32 × (Nat → Int32) × (Nat → Nat → Int32) × (Nat → Nat → Int32)) := (
 if inb x3 40 = true then (
  (some (up2 rA 6 x3.toNatClampNeg (rI 7))).bind fun rA_14 => (
   if inb x3 40 = true then (
    (some (up2 rA_14 7 x3.toNatClampNeg (rI 8))).bind fun rA_17 => (
     if inb x3 40 = true then (
      (some (up2 rA_17 9 x3.toNatClampNeg x2)).bind fun rA_20 => (
       if inb x3 40 = true then (
        f_X5_explore_b160 n K rc30 x1 x2 x3 rI (up2 rA_20 10 x3.toNatClampNeg (vp_nar .boolean (1 : Int32))) rG rR
       ) else none
      )
     ) else none
    )
   ) else none
  )
 ) else none
)
def f_X5_explore_l95 (n : Nat) (K : List Nat) (rc30 : (Int32 × Int32 × (Nat → Int32) × (Nat → Nat → Int32) × (Nat → Nat → Int32)) → Option (Int32 × (Nat → Int32) × (Nat → Nat → Int32) × (Nat → Nat → Int32))) (x1 : Int32) (x2 : Int32) (x3 : Int32) (rI : Nat → Int32) (rA : Nat → Nat → Int32) (rG : Nat → Option Nat) (rc95 : (Int32 × (Nat → Nat → Int32)) → Option (Int32 × (Nat → Int32) × (Nat → Nat → Int32) × (Nat → Nat → Int32))) : (Int32 × (Nat → Nat → Int32)) → Option (Int32 × (Nat → Int32) × (Nat → Nat → Int32) × (Nat → Nat → Int32)) := fun (x4, rR) => (
 if (rI 11) ≤ x4 then (
  f_X5_explore_b126 n K rc30 x1 x2 x3 rI rA rG rR
 ) else (
  if inb x3 40 = true then (
   (rG x3.toNatClampNeg).bind fun a24 => (
    if a24 ∈ K then (
     if inb x4 60 = true then (
      if inb x4 60 = true then (
       rc95 ((x4 + 1), (up2 rR a24 x4.toNatClampNeg (rA 16 x4.toNatClampNeg)))
      ) else none
     ) else none
    ) else none
   )
  ) else none
 )
)
def f_X5_explore_b66 (n : Nat) (K : List Nat) (rc30 : (Int32 × Int32 × (Nat → Int32) × (Nat → Nat → Int32) × (Nat → Nat → Int32)) → Option (Int32 × (Nat → Int32) × (Nat → Nat → Int32) × (Nat → Nat → Int32))) (x1 : Int32) (x2 : Int32) (x3 : Int32) (rI : Nat → Int32) (rA : Nat → Nat → Int32) (rG : Nat → Option Nat) (rR : Nat → Nat → Int32) : Option (Int32 × (Nat → Int32) × (Nat → Nat → Int32) × (Nat → Nat → Int32)) := (
 if x3 = (40 : Int32) then (
  some ((-1 : Int32), (rI, rA, rR))
 ) else (
  if x3 = x1 then (
   if inb x3 40 = true then (
    lp (f_X5_explore_l95 n K rc30 (x1 + 1) x2 x3 rI (up2 rA 8 x3.toNatClampNeg (rI 11)) rG) n ((0 : Int32), rR)
   ) else none
  ) else (
   f_X5_explore_b160 n K rc30 x1 x2 x3 rI rA rG rR
  )
 )
)
def f_X5_explore_l47 (n : Nat) (K : List Nat) (rc30 : (Int32 × Int32 × (Nat → Int32) × (Nat → Nat → Int32) × (Nat → Nat → Int32)) → Option (Int32 × (Nat → Int32) × (Nat → Nat → Int32) × (Nat → Nat → Int32))) (x1 : Int32) (x2 : Int32) (rI : Nat → Int32) (rA : Nat → Nat → Int32) (rG : Nat → Option Nat) (rR : Nat → Nat → Int32) (rc47 : (Int32) → Option (Int32 × (Nat → Int32) × (Nat → Nat → Int32) × (Nat → Nat → Int32))) : (Int32) → Option (Int32 × (Nat → Int32) × (Nat → Nat → Int32) × (Nat → Nat → Int32)) := fun x3 => (
 if x1 ≤ x3 then (
  f_X5_explore_b66 n K rc30 x1 x2 x3 rI rA rG rR
 ) else (
  (f_X5_isPath n K x3 rI rA rG rR).bind fun (r34, _u34) => (
   if r34 = 0 then (
    rc47 ((x3 + 1))
   ) else (
    f_X5_explore_b66 n K rc30 x1 x2 x3 rI rA rG rR
   )
  )
 )
)
def f_X5_explore_l30 (n : Nat) (K : List Nat) (rG : Nat → Option Nat) (rc30 : (Int32 × Int32 × (Nat → Int32) × (Nat → Nat → Int32) × (Nat → Nat → Int32)) → Option (Int32 × (Nat → Int32) × (Nat → Nat → Int32) × (Nat → Nat → Int32))) : (Int32 × Int32 × (Nat → Int32) × (Nat → Nat → Int32) × (Nat → Nat → Int32)) → Option (Int32 × (Nat → Int32) × (Nat → Nat → Int32) × (Nat → Nat → Int32)) := fun (x1, x2, rI, rA, rR) => (
 (f_X5_words K rI).bind fun (r36, _u36) => (
  if r36 ≤ x2 then (
   f_X5_explore_b221 n K x1 rI rA rG rR
  ) else (
   (f_X5_go0 n K x2 (1 : Int32) rI rA).bind fun (rI38, rA38) => (
    lp (f_X5_explore_l47 n K rc30 x1 x2 rI38 rA38 rG rR) n ((0 : Int32))
   )
  )
 )
)
def f_X5_explore_b28 (n : Nat) (K : List Nat) (x1 : Int32) (rI : Nat → Int32) (rA : Nat → Nat → Int32) (rG : Nat → Option Nat) (rR : Nat → Nat → Int32) : Option (Int32 × (Nat → Int32) × (Nat → Nat → Int32) × (Nat → Nat → Int32)) := (
 lp (f_X5_explore_l30 n K rG) n (x1, (0 : Int32), rI, rA, rR)
)
def f_X5_explore_l9 (n : Nat) (K : List Nat) (x1 : Int32) (rI : Nat → Int32) (rG : Nat → Option Nat) (rR : Nat → Nat → Int32) (rc9 : (Int32 × (Nat → Nat → Int32)) → Option (Int32 × (Nat → Int32) × (Nat → Nat → Int32) × (Nat → Nat → Int32))) : (Int32 × (Nat → Nat → Int32)) → Option (Int32 × (Nat → Int32) × (Nat → Nat → Int32) × (Nat → Nat → Int32)) := fun (x2, rA) => (
 if (60 : Int32) ≤ x2 then (
  f_X5_explore_b28 n K x1 rI rA rG rR
 ) else (
  if inb x2 60 = true then (
   rc9 ((x2 + 1), (up2 rA 13 x2.toNatClampNeg (vp_nar .boolean (0 : Int32))))
  ) else none
 )
)
def f_X5_explore (n : Nat) (K : List Nat) (rI : Nat → Int32) (rA : Nat → Nat → Int32) (rG : Nat → Option Nat) (rR : Nat → Nat → Int32) : Option (Int32 × (Nat → Int32) × (Nat → Nat → Int32) × (Nat → Nat → Int32)) := (
 lp (f_X5_explore_l9 n K (0 : Int32) (upd rI 6 (-1 : Int32)) rG rR) n ((0 : Int32), rA)
)
def f_X5_has (K : List Nat) (u1 : Int32) (rI : Nat → Int32) : Option (Int32 × Unit) := (
 if u1 < 0 then (
  some ((0 : Int32), ())
 ) else (
  if (rI 6) ≤ u1 then (
   some ((0 : Int32), ())
  ) else (
   some ((1 : Int32), ())
  )
 )
)
def f_X5_isWord (K : List Nat) (u1 : Int32) (rI : Nat → Int32) : Option (Int32 × Unit) := (
 if u1 < 0 then (
  some ((0 : Int32), ())
 ) else (
  (f_X5_words K rI).bind fun (r2, _u2) => (
   if r2 ≤ u1 then (
    some ((0 : Int32), ())
   ) else (
    some ((1 : Int32), ())
   )
  )
 )
)
def f_X5_path (K : List Nat) (u1 : Int32) (u2 : Int32) (rI : Nat → Int32) (rA : Nat → Nat → Int32) : Option (Int32 × Unit) := (
 (f_X5_has K u1 rI).bind fun (r1, _u1) => (
  if r1 = 0 then (
   some ((-1 : Int32), ())
  ) else (
   if u2 = (0 : Int32) then (
    if inb u1 40 = true then (
     some ((rA 6 u1.toNatClampNeg), ())
    ) else none
   ) else (
    if u2 = (1 : Int32) then (
     if inb u1 40 = true then (
      some ((rA 7 u1.toNatClampNeg), ())
     ) else none
    ) else (
     if u2 = (2 : Int32) then (
      if inb u1 40 = true then (
       some ((rA 8 u1.toNatClampNeg), ())
      ) else none
     ) else (
      if u2 = (3 : Int32) then (
       if inb u1 40 = true then (
        some ((rA 9 u1.toNatClampNeg), ())
       ) else none
      ) else (
       if u2 = (4 : Int32) then (
        if inb u1 40 = true then (
         if inb (rA 9 u1.toNatClampNeg) 4096 = true then (
          some ((rA 12 (rA 9 u1.toNatClampNeg).toNatClampNeg), ())
         ) else none
        ) else none
       ) else (
        if u2 = (5 : Int32) then (
         if inb u1 40 = true then (
          (f_X5_truth (rA 10 u1.toNatClampNeg)).bind fun (r10, _u10) => (
           some (r10, ())
          )
         ) else none
        ) else (
         some ((0 : Int32), ())
        )
       )
      )
     )
    )
   )
  )
 )
)
def f_X5_decision (K : List Nat) (u1 : Int32) (u2 : Int32) (rI : Nat → Int32) (rA : Nat → Nat → Int32) (rG : Nat → Option Nat) (rR : Nat → Nat → Int32) : Option (Int32 × Unit) := (
 (f_X5_has K u1 rI).bind fun (r1, _u1) => (
  if r1 = 0 then (
   some ((-1 : Int32), ())
  ) else (
   if u2 < 0 then (
    some ((-1 : Int32), ())
   ) else (
    if inb u1 40 = true then (
     if (rA 8 u1.toNatClampNeg) ≤ u2 then (
      some ((-1 : Int32), ())
     ) else (
      if inb u1 40 = true then (
       (rG u1.toNatClampNeg).bind fun a7 => (
        if a7 ∈ K then (
         if inb u2 60 = true then (
          some ((rR a7 u2.toNatClampNeg), ())
         ) else none
        ) else none
       )
      ) else none
     )
    ) else none
   )
  )
 )
)
def f_X5_holds_b31 (K : List Nat) (y0 : Int32) (rI : Nat → Int32) (rA : Nat → Nat → Int32) : Option (Int32 × Unit) := (
 (f_X5_truth y0).bind fun (r1, _u1) => (
  some (r1, ())
 )
)
def f_X5_holds (K : List Nat) (u1 : Int32) (u2 : Int32) (rI : Nat → Int32) (rA : Nat → Nat → Int32) : Option (Int32 × Unit) := (
 (f_X5_has K u1 rI).bind fun (r2, _u2) => (
  if r2 = 0 then (
   some ((-1 : Int32), ())
  ) else (
   (f_X5_isWord K u2 rI).bind fun (r4, _u4) => (
    if r4 = 0 then (
     some ((-1 : Int32), ())
    ) else (
     if inb u2 4096 = true then (
      if (rA 11 u2.toNatClampNeg) = u1 then (
       f_X5_holds_b31 K (1 : Int32) rI rA
      ) else (
       f_X5_holds_b31 K (0 : Int32) rI rA
      )
     ) else none
    )
   )
  )
 )
)
def f_X5_value (n : Nat) (K : List Nat) (u1 : Int32) (u2 : Int32) (rI : Nat → Int32) (rA : Nat → Nat → Int32) (rG : Nat → Option Nat) (rR : Nat → Nat → Int32) : Option (Int32 × (Nat → Int32) × (Nat → Nat → Int32)) := (
 (f_X5_has K u1 rI).bind fun (r1, _u1) => (
  if r1 = 0 then (
   some ((0 : Int32), (rI, rA))
  ) else (
   (f_X5_isWord K u2 rI).bind fun (r3, _u3) => (
    if r3 = 0 then (
     some ((0 : Int32), (rI, rA))
    ) else (
     if inb u1 40 = true then (
      (rG u1.toNatClampNeg).bind fun a6 => (
       if a6 ∈ K then (
        (f_X5_go1 n K u2 a6 (0 : Int32) rI rA rR).bind fun (rI9, rA9) => (
         some ((rI9 9), (rI9, rA9))
        )
       ) else none
      )
     ) else none
    )
   )
  )
 )
)
def f_X5_find_b103 (n : Nat) (K : List Nat) (rc22 : (Int32) → Option (Int32 × Unit)) (x1 : Int32) (x2 : Int32) (x3 : Int32) (x4 : Int32) (rI : Nat → Int32) (rA : Nat → Nat → Int32) : Option (Int32 × Unit) := (
 rc22 ((x4 + 1))
)
def f_X5_find_b89 (n : Nat) (K : List Nat) (rc22 : (Int32) → Option (Int32 × Unit)) (x1 : Int32) (x2 : Int32) (x3 : Int32) (x4 : Int32) (x5 : Int32) (rI : Nat → Int32) (rA : Nat → Nat → Int32) : Option (Int32 × Unit) := (
 if x2 = (3 : Int32) then (
  if x3 ≤ x5 then (
   f_X5_find_b103 n K rc22 x1 x2 x3 x4 rI rA
  ) else (
   some (x4, ())
  )
 ) else (
  f_X5_find_b103 n K rc22 x1 x2 x3 x4 rI rA
 )
)
def f_X5_find_b75 (n : Nat) (K : List Nat) (rc22 : (Int32) → Option (Int32 × Unit)) (x1 : Int32) (x2 : Int32) (x3 : Int32) (x4 : Int32) (x5 : Int32) (rI : Nat → Int32) (rA : Nat → Nat → Int32) : Option (Int32 × Unit) := (
 if x2 = (2 : Int32) then (
  (f_X5_isBelow x5 x3).bind fun (r4, _u4) => (
   if r4 = 0 then (
    f_X5_find_b89 n K rc22 x1 x2 x3 x4 x5 rI rA
   ) else (
    some (x4, ())
   )
  )
 ) else (
  f_X5_find_b89 n K rc22 x1 x2 x3 x4 x5 rI rA
 )
)
def f_X5_find_b64 (n : Nat) (K : List Nat) (rc22 : (Int32) → Option (Int32 × Unit)) (x1 : Int32) (x2 : Int32) (x3 : Int32) (x4 : Int32) (x5 : Int32) (rI : Nat → Int32) (rA : Nat → Nat → Int32) : Option (Int32 × Unit) := (
 if x2 = (1 : Int32) then (
  if x5 = x3 then (
   f_X5_find_b75 n K rc22 x1 x2 x3 x4 x5 rI rA
  ) else (
   some (x4, ())
  )
 ) else (
  f_X5_find_b75 n K rc22 x1 x2 x3 x4 x5 rI rA
 )
)
def f_X5_find_l22 (n : Nat) (K : List Nat) (x1 : Int32) (x2 : Int32) (x3 : Int32) (rI : Nat → Int32) (rA : Nat → Nat → Int32) (rc22 : (Int32) → Option (Int32 × Unit)) : (Int32) → Option (Int32 × Unit) := fun x4 => (
 (f_X5_words K rI).bind fun (r8, _u8) => (
  if r8 ≤ x4 then (
   some ((-1 : Int32), ())
  ) else (
   if inb x4 4096 = true then (
    if (rA 11 x4.toNatClampNeg) = x1 then (
     if inb x4 4096 = true then (
      if x2 = 0 then (
       if (rA 12 x4.toNatClampNeg) = x3 then (
        some (x4, ())
       ) else (
        f_X5_find_b64 n K rc22 x1 x2 x3 x4 (rA 12 x4.toNatClampNeg) rI rA
       )
      ) else (
       f_X5_find_b64 n K rc22 x1 x2 x3 x4 (rA 12 x4.toNatClampNeg) rI rA
      )
     ) else none
    ) else (
     f_X5_find_b103 n K rc22 x1 x2 x3 x4 rI rA
    )
   ) else none
  )
 )
)
def f_X5_find (n : Nat) (K : List Nat) (u1 : Int32) (u2 : Int32) (u3 : Int32) (rI : Nat → Int32) (rA : Nat → Nat → Int32) : Option (Int32 × Unit) := (
 (f_X5_has K u1 rI).bind fun (r15, _u15) => (
  if r15 = 0 then (
   some ((-1 : Int32), ())
  ) else (
   if u2 < 0 then (
    some ((-1 : Int32), ())
   ) else (
    if u2 ≤ (3 : Int32) then (
     lp (f_X5_find_l22 n K u1 u2 u3 rI rA) n ((0 : Int32))
    ) else (
     some ((-1 : Int32), ())
    )
   )
  )
 )
)
def f_X5_run_b124 (n : Nat) (K : List Nat) (rI : Nat → Int32) (rA : Nat → Nat → Int32) : Option (Int32 × (Nat → Int32) × (Nat → Nat → Int32)) := (
 some ((rI 7), (rI, rA))
)
def f_X5_run_l100 (n : Nat) (K : List Nat) (rI : Nat → Int32) (rc100 : (Int32 × (Nat → Nat → Int32)) → Option (Int32 × (Nat → Int32) × (Nat → Nat → Int32))) : (Int32 × (Nat → Nat → Int32)) → Option (Int32 × (Nat → Int32) × (Nat → Nat → Int32)) := fun (x2, rA) => (
 if (8 : Int32) ≤ x2 then (
  f_X5_run_b124 n K rI rA
 ) else (
  if inb x2 8 = true then (
   if inb x2 8 = true then (
    rc100 ((x2 + 1), (up2 rA 18 x2.toNatClampNeg (rA 15 x2.toNatClampNeg)))
   ) else none
  ) else none
 )
)
def f_X5_run_b98 (n : Nat) (K : List Nat) (rI : Nat → Int32) (rA : Nat → Nat → Int32) : Option (Int32 × (Nat → Int32) × (Nat → Nat → Int32)) := (
 lp (f_X5_run_l100 n K rI) n ((0 : Int32), rA)
)
def f_X5_run_l74 (n : Nat) (K : List Nat) (rI : Nat → Int32) (rc74 : (Int32 × (Nat → Nat → Int32)) → Option (Int32 × (Nat → Int32) × (Nat → Nat → Int32))) : (Int32 × (Nat → Nat → Int32)) → Option (Int32 × (Nat → Int32) × (Nat → Nat → Int32)) := fun (x2, rA) => (
 if (16 : Int32) ≤ x2 then (
  f_X5_run_b98 n K rI rA
 ) else (
  if inb x2 16 = true then (
   if inb x2 16 = true then (
    rc74 ((x2 + 1), (up2 rA 17 x2.toNatClampNeg (rA 14 x2.toNatClampNeg)))
   ) else none
  ) else none
 )
)
def f_X5_run (n : Nat) (K : List Nat) (u1 : Int32) (rI : Nat → Int32) (rA : Nat → Nat → Int32) : Option (Int32 × (Nat → Int32) × (Nat → Nat → Int32)) := (
 (f_X5_isWord K u1 rI).bind fun (r7, _u7) => (
  if r7 = 0 then (
   some ((-1 : Int32), (rI, rA))
  ) else (
   (f_X5_go0 n K u1 (0 : Int32) rI rA).bind fun (rI9, rA9) => (
    lp (f_X5_run_l74 n K (upd (upd (upd (upd (upd (upd (upd (upd rI9 12 (1 : Int32)) 19 (1 : Int32)) 13 u1) 14 ((upd (upd (upd rI9 12 (1 : Int32)) 19 (1 : Int32)) 13 u1) 7)) 15 ((upd (upd (upd (upd rI9 12 (1 : Int32)) 19 (1 : Int32)) 13 u1) 14 ((upd (upd (upd rI9 12 (1 : Int32)) 19 (1 : Int32)) 13 u1) 7)) 8)) 16 ((upd (upd (upd (upd (upd rI9 12 (1 : Int32)) 19 (1 : Int32)) 13 u1) 14 ((upd (upd (upd rI9 12 (1 : Int32)) 19 (1 : Int32)) 13 u1) 7)) 15 ((upd (upd (upd (upd rI9 12 (1 : Int32)) 19 (1 : Int32)) 13 u1) 14 ((upd (upd (upd rI9 12 (1 : Int32)) 19 (1 : Int32)) 13 u1) 7)) 8)) 9)) 17 ((upd (upd (upd (upd (upd (upd rI9 12 (1 : Int32)) 19 (1 : Int32)) 13 u1) 14 ((upd (upd (upd rI9 12 (1 : Int32)) 19 (1 : Int32)) 13 u1) 7)) 15 ((upd (upd (upd (upd rI9 12 (1 : Int32)) 19 (1 : Int32)) 13 u1) 14 ((upd (upd (upd rI9 12 (1 : Int32)) 19 (1 : Int32)) 13 u1) 7)) 8)) 16 ((upd (upd (upd (upd (upd rI9 12 (1 : Int32)) 19 (1 : Int32)) 13 u1) 14 ((upd (upd (upd rI9 12 (1 : Int32)) 19 (1 : Int32)) 13 u1) 7)) 15 ((upd (upd (upd (upd rI9 12 (1 : Int32)) 19 (1 : Int32)) 13 u1) 14 ((upd (upd (upd rI9 12 (1 : Int32)) 19 (1 : Int32)) 13 u1) 7)) 8)) 9)) 10)) 18 ((upd (upd (upd (upd (upd (upd (upd rI9 12 (1 : Int32)) 19 (1 : Int32)) 13 u1) 14 ((upd (upd (upd rI9 12 (1 : Int32)) 19 (1 : Int32)) 13 u1) 7)) 15 ((upd (upd (upd (upd rI9 12 (1 : Int32)) 19 (1 : Int32)) 13 u1) 14 ((upd (upd (upd rI9 12 (1 : Int32)) 19 (1 : Int32)) 13 u1) 7)) 8)) 16 ((upd (upd (upd (upd (upd rI9 12 (1 : Int32)) 19 (1 : Int32)) 13 u1) 14 ((upd (upd (upd rI9 12 (1 : Int32)) 19 (1 : Int32)) 13 u1) 7)) 15 ((upd (upd (upd (upd rI9 12 (1 : Int32)) 19 (1 : Int32)) 13 u1) 14 ((upd (upd (upd rI9 12 (1 : Int32)) 19 (1 : Int32)) 13 u1) 7)) 8)) 9)) 17 ((upd (upd (upd (upd (upd (upd rI9 12 (1 : Int32)) 19 (1 : Int32)) 13 u1) 14 ((upd (upd (upd rI9 12 (1 : Int32)) 19 (1 : Int32)) 13 u1) 7)) 15 ((upd (upd (upd (upd rI9 12 (1 : Int32)) 19 (1 : Int32)) 13 u1) 14 ((upd (upd (upd rI9 12 (1 : Int32)) 19 (1 : Int32)) 13 u1) 7)) 8)) 16 ((upd (upd (upd (upd (upd rI9 12 (1 : Int32)) 19 (1 : Int32)) 13 u1) 14 ((upd (upd (upd rI9 12 (1 : Int32)) 19 (1 : Int32)) 13 u1) 7)) 15 ((upd (upd (upd (upd rI9 12 (1 : Int32)) 19 (1 : Int32)) 13 u1) 14 ((upd (upd (upd rI9 12 (1 : Int32)) 19 (1 : Int32)) 13 u1) 7)) 8)) 9)) 10)) 11))) n ((0 : Int32), rA9)
   )
  )
 )
)
def f_X5_ran (K : List Nat) (u1 : Int32) (rI : Nat → Int32) (rA : Nat → Nat → Int32) : Option (Int32 × Unit) := (
 if (rI 12) = 0 then (
  some ((-1 : Int32), ())
 ) else (
  if u1 = (0 : Int32) then (
   some ((rI 14), ())
  ) else (
   if u1 = (1 : Int32) then (
    some ((rI 15), ())
   ) else (
    if u1 = (2 : Int32) then (
     some ((rI 16), ())
    ) else (
     if u1 = (3 : Int32) then (
      some ((rI 17), ())
     ) else (
      if u1 = (4 : Int32) then (
       some ((rI 18), ())
      ) else (
       if u1 = (5 : Int32) then (
        if (rI 6) < 0 then (
         some ((-1 : Int32), ())
        ) else (
         if (rI 19) = 0 then (
          some ((-1 : Int32), ())
         ) else (
          if inb (rI 13) 4096 = true then (
           some ((rA 11 (rI 13).toNatClampNeg), ())
          ) else none
         )
        )
       ) else (
        some ((-1 : Int32), ())
       )
      )
     )
    )
   )
  )
 )
)
def f_X5_register (K : List Nat) (u1 : Int32) (rI : Nat → Int32) (rA : Nat → Nat → Int32) : Option (Int32 × Unit) := (
 if (rI 12) = 0 then (
  some ((0 : Int32), ())
 ) else (
  if u1 < 0 then (
   some ((0 : Int32), ())
  ) else (
   if (16 : Int32) ≤ u1 then (
    some ((0 : Int32), ())
   ) else (
    if inb u1 16 = true then (
     some ((rA 17 u1.toNatClampNeg), ())
    ) else none
   )
  )
 )
)
def f_X5_cell (K : List Nat) (u1 : Int32) (rI : Nat → Int32) (rA : Nat → Nat → Int32) : Option (Int32 × Unit) := (
 if (rI 12) = 0 then (
  some ((0 : Int32), ())
 ) else (
  if u1 < 0 then (
   some ((0 : Int32), ())
  ) else (
   if (8 : Int32) ≤ u1 then (
    some ((0 : Int32), ())
   ) else (
    if inb u1 8 = true then (
     some ((rA 18 u1.toNatClampNeg), ())
    ) else none
   )
  )
 )
)
def f_X5_failing_b60 (n : Nat) (K : List Nat) (rc5 : (Int32 × Int32) → Option (Int32 × Unit)) (x1 : Int32) (x2 : Int32) (x3 : Int32) (x4 : Int32) (rI : Nat → Int32) (rA : Nat → Nat → Int32) : Option (Int32 × Unit) := (
 rc5 (x3, (x4 + 1))
)
def f_X5_failing_b52 (n : Nat) (K : List Nat) (rc5 : (Int32 × Int32) → Option (Int32 × Unit)) (x1 : Int32) (x2 : Int32) (x4 : Int32) (rI : Nat → Int32) (rA : Nat → Nat → Int32) : Option (Int32 × Unit) := (
 if inb x4 40 = true then (
  f_X5_failing_b60 n K rc5 x1 x2 (rA 9 x4.toNatClampNeg) x4 rI rA
 ) else none
)
def f_X5_failing_l5 (n : Nat) (K : List Nat) (x1 : Int32) (x2 : Int32) (rI : Nat → Int32) (rA : Nat → Nat → Int32) (rc5 : (Int32 × Int32) → Option (Int32 × Unit)) : (Int32 × Int32) → Option (Int32 × Unit) := fun (x3, x4) => (
 if (rI 6) ≤ x4 then (
  some (x3, ())
 ) else (
  if inb x4 40 = true then (
   if (rA 6 x4.toNatClampNeg) = x1 then (
    if inb x4 40 = true then (
     if (rA 7 x4.toNatClampNeg) = x2 then (
      if x3 = (-1 : Int32) then (
       f_X5_failing_b52 n K rc5 x1 x2 x4 rI rA
      ) else (
       if inb x4 40 = true then (
        if x3 ≤ (rA 9 x4.toNatClampNeg) then (
         f_X5_failing_b60 n K rc5 x1 x2 x3 x4 rI rA
        ) else (
         f_X5_failing_b52 n K rc5 x1 x2 x4 rI rA
        )
       ) else none
      )
     ) else (
      f_X5_failing_b60 n K rc5 x1 x2 x3 x4 rI rA
     )
    ) else none
   ) else (
    f_X5_failing_b60 n K rc5 x1 x2 x3 x4 rI rA
   )
  ) else none
 )
)
def f_X5_failing (n : Nat) (K : List Nat) (u1 : Int32) (u2 : Int32) (rI : Nat → Int32) (rA : Nat → Nat → Int32) : Option (Int32 × Unit) := (
 lp (f_X5_failing_l5 n K u1 u2 rI rA) n ((-1 : Int32), (0 : Int32))
)
def f_X5_failures_b43 (n : Nat) (K : List Nat) (rc4 : (Int32 × Int32) → Option (Int32 × Unit)) (x1 : Int32) (x2 : Int32) (rI : Nat → Int32) (rA : Nat → Nat → Int32) : Option (Int32 × Unit) := (
 rc4 (x1, (x2 + 1))
)
def f_X5_failures_b35 (n : Nat) (K : List Nat) (rc4 : (Int32 × Int32) → Option (Int32 × Unit)) (rc14 : (Int32 × Int32) → Option (Int32 × Unit)) (x2 : Int32) (x3 : Int32) (y0 : Int32) (y1 : Int32) (rI : Nat → Int32) (rA : Nat → Nat → Int32) : Option (Int32 × Unit) := (
 rc14 ((y0 + y1), (x3 + 1))
)
def f_X5_failures_l14 (n : Nat) (K : List Nat) (rc4 : (Int32 × Int32) → Option (Int32 × Unit)) (x2 : Int32) (rI : Nat → Int32) (rA : Nat → Nat → Int32) (rc14 : (Int32 × Int32) → Option (Int32 × Unit)) : (Int32 × Int32) → Option (Int32 × Unit) := fun (x1, x3) => (
 if (5 : Int32) ≤ x3 then (
  f_X5_failures_b43 n K rc4 x1 x2 rI rA
 ) else (
  (f_X5_failing n K x3 x2 rI rA).bind fun (r2, _u2) => (
   if r2 = (-1 : Int32) then (
    f_X5_failures_b35 n K rc4 rc14 x2 x3 x1 (0 : Int32) rI rA
   ) else (
    f_X5_failures_b35 n K rc4 rc14 x2 x3 x1 (1 : Int32) rI rA
   )
  )
 )
)
def f_X5_failures_l4 (n : Nat) (K : List Nat) (rI : Nat → Int32) (rA : Nat → Nat → Int32) (rc4 : (Int32 × Int32) → Option (Int32 × Unit)) : (Int32 × Int32) → Option (Int32 × Unit) := fun (x1, x2) => (
 if (rI 3) ≤ x2 then (
  some (x1, ())
 ) else (
  lp (f_X5_failures_l14 n K rc4 x2 rI rA) n (x1, (1 : Int32))
 )
)
def f_X5_failures (n : Nat) (K : List Nat) (rI : Nat → Int32) (rA : Nat → Nat → Int32) : Option (Int32 × Unit) := (
 lp (f_X5_failures_l4 n K rI rA) n ((0 : Int32), (0 : Int32))
)
def f_X5_failure_b92 (n : Nat) (K : List Nat) (rc11 : (Int32 × Int32) → Option (Int32 × Unit)) (x2 : Int32) (x3 : Int32) (x4 : Int32) (rI : Nat → Int32) (rA : Nat → Nat → Int32) : Option (Int32 × Unit) := (
 rc11 (x3, (x4 + 1))
)
def f_X5_failure_b86 (n : Nat) (K : List Nat) (rc11 : (Int32 × Int32) → Option (Int32 × Unit)) (rc23 : (Int32 × Int32) → Option (Int32 × Unit)) (x2 : Int32) (x3 : Int32) (x4 : Int32) (x5 : Int32) (rI : Nat → Int32) (rA : Nat → Nat → Int32) : Option (Int32 × Unit) := (
 rc23 (x3, (x5 + 1))
)
def f_X5_failure_b52 (n : Nat) (K : List Nat) (x2 : Int32) (x4 : Int32) (x5 : Int32) (x6 : Int32) (rI : Nat → Int32) (rA : Nat → Nat → Int32) : Option (Int32 × Unit) := (
 if x2 = 0 then (
  some (x5, ())
 ) else (
  if x2 = (1 : Int32) then (
   some (x4, ())
  ) else (
   if x2 = (2 : Int32) then (
    some (x6, ())
   ) else (
    some ((-1 : Int32), ())
   )
  )
 )
)
def f_X5_failure_l23 (n : Nat) (K : List Nat) (rc11 : (Int32 × Int32) → Option (Int32 × Unit)) (x2 : Int32) (x4 : Int32) (rI : Nat → Int32) (rA : Nat → Nat → Int32) (rc23 : (Int32 × Int32) → Option (Int32 × Unit)) : (Int32 × Int32) → Option (Int32 × Unit) := fun (x3, x5) => (
 if (5 : Int32) ≤ x5 then (
  f_X5_failure_b92 n K rc11 x2 x3 x4 rI rA
 ) else (
  (f_X5_failing n K x5 x4 rI rA).bind fun (r5, _u5) => (
   if r5 = (-1 : Int32) then (
    f_X5_failure_b86 n K rc11 rc23 x2 x3 x4 x5 rI rA
   ) else (
    if x3 = 0 then (
     f_X5_failure_b52 n K x2 x4 x5 r5 rI rA
    ) else (
     f_X5_failure_b86 n K rc11 rc23 x2 (x3 + (-1)) x4 x5 rI rA
    )
   )
  )
 )
)
def f_X5_failure_l11 (n : Nat) (K : List Nat) (x2 : Int32) (rI : Nat → Int32) (rA : Nat → Nat → Int32) (rc11 : (Int32 × Int32) → Option (Int32 × Unit)) : (Int32 × Int32) → Option (Int32 × Unit) := fun (x3, x4) => (
 if (rI 3) ≤ x4 then (
  some ((-1 : Int32), ())
 ) else (
  lp (f_X5_failure_l23 n K rc11 x2 x4 rI rA) n (x3, (1 : Int32))
 )
)
def f_X5_failure (n : Nat) (K : List Nat) (u1 : Int32) (u2 : Int32) (rI : Nat → Int32) (rA : Nat → Nat → Int32) : Option (Int32 × Unit) := (
 if 0 ≤ u1 then (
  lp (f_X5_failure_l11 n K u2 rI rA) n (u1, (0 : Int32))
 ) else (
  some ((-1 : Int32), ())
 )
)
def f_X5_covered (K : List Nat) (u1 : Int32) (rI : Nat → Int32) (rA : Nat → Nat → Int32) : Option (Int32 × Unit) := (
 if (rI 6) < 0 then (
  some ((-1 : Int32), ())
 ) else (
  if u1 < 0 then (
   some ((-1 : Int32), ())
  ) else (
   if u1 < (rI 3) then (
    if inb u1 60 = true then (
     (f_X5_truth (rA 13 u1.toNatClampNeg)).bind fun (r5, _u5) => (
      some (r5, ())
     )
    ) else none
   ) else (
    some ((-1 : Int32), ())
   )
  )
 )
)
def f_X5_count_b109 (n : Nat) (K : List Nat) (x2 : Int32) (rI : Nat → Int32) (rA : Nat → Nat → Int32) : Option (Int32 × Unit) := (
 if 0 ≤ (rI 6) then (
  some (x2, ())
 ) else (
  some ((-1 : Int32), ())
 )
)
def f_X5_count_b101 (n : Nat) (K : List Nat) (rc78 : (Int32 × Int32) → Option (Int32 × Unit)) (x3 : Int32) (y0 : Int32) (y1 : Int32) (rI : Nat → Int32) (rA : Nat → Nat → Int32) : Option (Int32 × Unit) := (
 rc78 ((y0 + y1), (x3 + 1))
)
def f_X5_count_l78 (n : Nat) (K : List Nat) (rI : Nat → Int32) (rA : Nat → Nat → Int32) (rc78 : (Int32 × Int32) → Option (Int32 × Unit)) : (Int32 × Int32) → Option (Int32 × Unit) := fun (x2, x3) => (
 if (rI 3) ≤ x3 then (
  f_X5_count_b109 n K x2 rI rA
 ) else (
  if inb x3 60 = true then (
   if (rA 13 x3.toNatClampNeg) = 0 then (
    f_X5_count_b101 n K rc78 x3 x2 (0 : Int32) rI rA
   ) else (
    f_X5_count_b101 n K rc78 x3 x2 (1 : Int32) rI rA
   )
  ) else none
 )
)
def f_X5_count (n : Nat) (K : List Nat) (u1 : Int32) (rI : Nat → Int32) (rA : Nat → Nat → Int32) : Option (Int32 × Unit) := (
 if u1 = (0 : Int32) then (
  some ((rI 1), ())
 ) else (
  if u1 = (1 : Int32) then (
   some ((rI 2), ())
  ) else (
   if u1 = (2 : Int32) then (
    some ((rI 3), ())
   ) else (
    if u1 = (3 : Int32) then (
     some ((rI 6), ())
    ) else (
     if u1 = (4 : Int32) then (
      if 0 ≤ (rI 6) then (
       (f_X5_failures n K rI rA).bind fun (r6, _u6) => (
        some (r6, ())
       )
      ) else (
       some ((-1 : Int32), ())
      )
     ) else (
      if u1 = (5 : Int32) then (
       lp (f_X5_count_l78 n K rI rA) n ((0 : Int32), (0 : Int32))
      ) else (
       some ((-1 : Int32), ())
      )
     )
    )
   )
  )
 )
)
