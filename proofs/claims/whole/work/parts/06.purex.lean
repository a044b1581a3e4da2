noncomputable def xTerms_has (c : jS) (a1 : Int32) : Option Int32 :=
  if a1 < 0 then (
    some (0 : Int32))
  else (
    if (c 5 12) ≤ a1 then (
      some (0 : Int32))
    else (
      if (400 : Int32) ≤ a1 then (
        some (0 : Int32))
      else (
        some (1 : Int32))))

noncomputable def xTerms_kindOf (c : jS) (a1 : Int32) : Option Int32 :=
  ob (xTerms_has c a1) (fun r1 =>
  if r1 = 0 then (
    some (-2 : Int32))
  else (
    gd (ix a1 400) (
    some (c 6 (a1).toNatClampNeg))))

noncomputable def xTerms_sizeOf (c : jS) (a1 : Int32) : Option Int32 :=
  ob (xTerms_has c a1) (fun r1 =>
  if r1 = 0 then (
    some (0 : Int32))
  else (
    gd (ix a1 400) (
    some (c 13 (a1).toNatClampNeg))))

noncomputable def xTerms_numberOf (c : jS) (a1 : Int32) : Option Int32 :=
  ob (xTerms_has c a1) (fun r1 =>
  if r1 = 0 then (
    some (0 : Int32))
  else (
    gd (ix a1 400) (
    some (c 7 (a1).toNatClampNeg))))

noncomputable def xTerms_letterOf (c : jS) (a1 : Int32) : Option Int32 :=
  ob (xTerms_has c a1) (fun r1 =>
  if r1 = 0 then (
    some (-2 : Int32))
  else (
    gd (ix a1 400) (
    some (c 8 (a1).toNatClampNeg))))

noncomputable def xc_isLetter (c : jS) (a0 : Int32) : Option Int32 :=
  if a0 < 0 then (
    some (0 : Int32))
  else (
    if (26 : Int32) ≤ a0 then (
      some (0 : Int32))
    else (
      some (1 : Int32)))

noncomputable def xComparer_sameName (c : jS) (a1 : Int32) (a2 : Int32) : Option Int32 :=
  ob (xc_isLetter c a1) (fun r1 =>
  if r1 = 0 then (
    some (0 : Int32))
  else (
    ob (xc_isLetter c a2) (fun r2 =>
    if r2 = 0 then (
      some (0 : Int32))
    else (
      gd (ix a1 26) (
      gd (ix a2 26) (
      if (c 21 (a1).toNatClampNeg) = (c 22 (a2).toNatClampNeg) then (
        gd (ix a1 26) (
        if (c 21 (a1).toNatClampNeg) = (-2 : Int32) then (
          if a1 = a2 then (
            some (1 : Int32))
          else (
            some (0 : Int32)))
        else (
          some (1 : Int32))))
      else (
        some (0 : Int32))))))))

noncomputable def xTerms_typeOf (c : jS) (a1 : Int32) : Option Int32 :=
  ob (xTerms_has c a1) (fun r1 =>
  if r1 = 0 then (
    some (-2 : Int32))
  else (
    gd (ix a1 400) (
    some (c 9 (a1).toNatClampNeg))))

noncomputable def xTerms_firstOf (c : jS) (a1 : Int32) : Option Int32 :=
  ob (xTerms_has c a1) (fun r1 =>
  if r1 = 0 then (
    some (-2 : Int32))
  else (
    gd (ix a1 400) (
    some (c 10 (a1).toNatClampNeg))))

noncomputable def xTerms_secondOf (c : jS) (a1 : Int32) : Option Int32 :=
  ob (xTerms_has c a1) (fun r1 =>
  if r1 = 0 then (
    some (-2 : Int32))
  else (
    gd (ix a1 400) (
    some (c 11 (a1).toNatClampNeg))))

noncomputable def xTerms_thirdOf (c : jS) (a1 : Int32) : Option Int32 :=
  ob (xTerms_has c a1) (fun r1 =>
  if r1 = 0 then (
    some (-2 : Int32))
  else (
    gd (ix a1 400) (
    some (c 12 (a1).toNatClampNeg))))

noncomputable def b_xComparer_same (F_same : jS → Int32 → Int32 → Int32 → Option (Int32 × jS)) (F_sameUnder : jS → Int32 → Int32 → Int32 → Int32 → Int32 → Option (Int32 × jS)) (c : jS) (a1 : Int32) (a2 : Int32) (a3 : Int32) : Option (Int32 × jS) :=
  ob (xTerms_kindOf c a1) (fun r1 =>
  ob (xTerms_kindOf c a2) (fun r2 =>
  if r1 = r2 then (
    ob (xTerms_sizeOf c a1) (fun r3 =>
    ob (xTerms_sizeOf c a2) (fun r4 =>
    if r3 = r4 then (
      if r1 = 0 then (
        ob (xTerms_numberOf c a1) (fun r5 =>
        ob (xTerms_numberOf c a2) (fun r6 =>
        if r5 = r6 then (
          some ((1 : Int32), c))
        else (
          some ((0 : Int32), c)))))
      else (
      if r1 = 1 then (
        ob (xTerms_letterOf c a1) (fun r7 =>
        ob (xTerms_letterOf c a2) (fun r8 =>
        ob (xComparer_sameName c r7 r8) (fun r9 =>
        gd (bz r9) (some (r9, c))))))
      else (
      if r1 = 2 then (
        ob (xTerms_typeOf c a1) (fun r10 =>
        ob (xTerms_typeOf c a2) (fun r11 =>
        if r10 = r11 then (
          ob (xTerms_firstOf c a1) (fun r12 =>
          ob (xTerms_firstOf c a2) (fun r13 =>
          bd (F_sameUnder c a1 r12 a2 r13 a3) (fun r14 c15 =>
          if r14 = 0 then (
            some ((0 : Int32), c15))
          else (
            some ((1 : Int32), c15))))))
        else (
          some ((0 : Int32), c)))))
      else (
      if r1 = 3 then (
        ob (xTerms_firstOf c a1) (fun r16 =>
        ob (xTerms_firstOf c a2) (fun r17 =>
        bd (F_same c r16 r17 a3) (fun r18 c19 =>
        if r18 = 0 then (
          some ((0 : Int32), c19))
        else (
          ob (xTerms_secondOf c19 a1) (fun r20 =>
          ob (xTerms_secondOf c19 a2) (fun r21 =>
          bd (F_same c19 r20 r21 a3) (fun r22 c23 =>
          if r22 = 0 then (
            some ((0 : Int32), c23))
          else (
            ob (xTerms_thirdOf c23 a1) (fun r24 =>
            ob (xTerms_thirdOf c23 a2) (fun r25 =>
            bd (F_same c23 r24 r25 a3) (fun r26 c27 =>
            if r26 = 0 then (
              some ((0 : Int32), c27))
            else (
              some ((1 : Int32), c27))))))))))))))
      else (
      if r1 = 4 then (
        ob (xTerms_firstOf c a1) (fun r28 =>
        ob (xTerms_firstOf c a2) (fun r29 =>
        bd (F_same c r28 r29 a3) (fun r30 c31 =>
        if r30 = 0 then (
          some ((0 : Int32), c31))
        else (
          ob (xTerms_secondOf c31 a1) (fun r32 =>
          ob (xTerms_secondOf c31 a2) (fun r33 =>
          bd (F_sameUnder c31 a1 r32 a2 r33 a3) (fun r34 c35 =>
          if r34 = 0 then (
            some ((0 : Int32), c35))
          else (
            some ((1 : Int32), c35))))))))))
      else (
      if r1 = 5 then (
        ob (xTerms_firstOf c a1) (fun r36 =>
        ob (xTerms_firstOf c a2) (fun r37 =>
        bd (F_same c r36 r37 a3) (fun r38 c39 =>
        if r38 = 0 then (
          some ((0 : Int32), c39))
        else (
          ob (xTerms_secondOf c39 a1) (fun r40 =>
          ob (xTerms_secondOf c39 a2) (fun r41 =>
          bd (F_same c39 r40 r41 a3) (fun r42 c43 =>
          if r42 = 0 then (
            some ((0 : Int32), c43))
          else (
            ob (xTerms_thirdOf c43 a1) (fun r44 =>
            ob (xTerms_thirdOf c43 a2) (fun r45 =>
            bd (F_same c43 r44 r45 a3) (fun r46 c47 =>
            if r46 = 0 then (
              some ((0 : Int32), c47))
            else (
              some ((1 : Int32), c47))))))))))))))
      else (
      if r1 = 6 then (
        ob (xTerms_firstOf c a1) (fun r48 =>
        ob (xTerms_firstOf c a2) (fun r49 =>
        bd (F_same c r48 r49 a3) (fun r50 c51 =>
        if r50 = 0 then (
          some ((0 : Int32), c51))
        else (
          ob (xTerms_secondOf c51 a1) (fun r52 =>
          ob (xTerms_secondOf c51 a2) (fun r53 =>
          bd (F_same c51 r52 r53 a3) (fun r54 c55 =>
          if r54 = 0 then (
            some ((0 : Int32), c55))
          else (
            ob (xTerms_thirdOf c55 a1) (fun r56 =>
            ob (xTerms_thirdOf c55 a2) (fun r57 =>
            bd (F_same c55 r56 r57 a3) (fun r58 c59 =>
            if r58 = 0 then (
              some ((0 : Int32), c59))
            else (
              some ((1 : Int32), c59))))))))))))))
      else (
      some ((1 : Int32), c)))))))))
    else (
      some ((0 : Int32), c)))))
  else (
    some ((0 : Int32), c))))

noncomputable def b_xComparer_sameUnder (F_same : jS → Int32 → Int32 → Int32 → Option (Int32 × jS)) (F_sameUnder : jS → Int32 → Int32 → Int32 → Int32 → Int32 → Option (Int32 × jS)) (c : jS) (a1 : Int32) (a2 : Int32) (a3 : Int32) (a4 : Int32) (a5 : Int32) : Option (Int32 × jS) :=
  ob (xTerms_letterOf c a1) (fun r1 =>
  ob (xTerms_letterOf c a3) (fun r2 =>
  ob (xc_isLetter c r1) (fun r3 =>
  if r3 = 0 then (
    some ((0 : Int32), c))
  else (
    ob (xc_isLetter c r2) (fun r4 =>
    if r4 = 0 then (
      some ((0 : Int32), c))
    else (
      gd (ix r1 26) (
      gd (ix r2 26) (
      gd (ix r1 26) (lt (su c 21 (r1).toNatClampNeg a5) (fun c5 =>
      gd (ix r2 26) (lt (su c5 22 (r2).toNatClampNeg a5) (fun c6 =>
      bd (F_same c6 a2 a4 (a5 + (1 : Int32))) (fun r7 c8 =>
      gd (ix r1 26) (lt (su c8 21 (r1).toNatClampNeg (c 21 (r1).toNatClampNeg)) (fun c9 =>
      gd (ix r2 26) (lt (su c9 22 (r2).toNatClampNeg (c 22 (r2).toNatClampNeg)) (fun c10 =>
      gd (bz r7) (some (r7, c10)))))))))))))))))))

noncomputable def g_xComparer_same : Nat → (jS → Int32 → Int32 → Int32 → Option (Int32 × jS)) × (jS → Int32 → Int32 → Int32 → Int32 → Int32 → Option (Int32 × jS))
  | 0 => ((fun _ _ _ _ => none), (fun _ _ _ _ _ _ => none))
  | f + 1 => ((fun c a1 a2 a3 => b_xComparer_same (g_xComparer_same f).1 (g_xComparer_same f).2 c a1 a2 a3), (fun c a1 a2 a3 a4 a5 => b_xComparer_sameUnder (g_xComparer_same f).1 (g_xComparer_same f).2 c a1 a2 a3 a4 a5))

noncomputable def xComparer_same (f : Nat) : jS → Int32 → Int32 → Int32 → Option (Int32 × jS) := (g_xComparer_same f).1

noncomputable def xComparer_sameUnder (f : Nat) : jS → Int32 → Int32 → Int32 → Int32 → Int32 → Option (Int32 × jS) := (g_xComparer_same f).2

theorem xComparer_same_s (f : Nat) : xComparer_same (f + 1) = b_xComparer_same (xComparer_same f) (xComparer_sameUnder f) := rfl

theorem xComparer_sameUnder_s (f : Nat) : xComparer_sameUnder (f + 1) = b_xComparer_sameUnder (xComparer_same f) (xComparer_sameUnder f) := rfl

noncomputable def xComparer_areAlike_S2 (v1 : Int32) (v2 : Int32) (v3 : Int32) (c : jS) : Option ((Int32 × Int32 × Int32 × jS) ⊕ (Int32 × jS)) :=
  if (26 : Int32) ≤ v3 then (
    bd (xComparer_same 130 c v1 v2 (0 : Int32)) (fun r1 c2 =>
    gd (bz r1) (some (Sum.inr (r1, c2)))))
  else (
    gd (ix v3 26) (lt (su c 21 (v3).toNatClampNeg (-2 : Int32)) (fun c3 =>
    gd (ix v3 26) (lt (su c3 22 (v3).toNatClampNeg (-2 : Int32)) (fun c4 =>
    some (Sum.inl (v1, v2, (v3 + (1 : Int32)), c4)))))))
noncomputable def xComparer_areAlike_L2 (v1 : Int32) (v2 : Int32) (v3 : Int32) (c : jS) : Option (Int32 × jS) :=
  lp (fun s : (Int32 × Int32 × Int32 × jS) => xComparer_areAlike_S2 s.1 s.2.1 s.2.2.1 s.2.2.2) (v1, v2, v3, c)
noncomputable def xComparer_areAlike (c : jS) (a1 : Int32) (a2 : Int32) : Option (Int32 × jS) :=
  xComparer_areAlike_L2 a1 a2 (0 : Int32) c

noncomputable def xTerms_freeLettersOf (c : jS) (a1 : Int32) : Option Int32 :=
  ob (xTerms_has c a1) (fun r1 =>
  if r1 = 0 then (
    some (0 : Int32))
  else (
    gd (ix a1 400) (
    some (c 15 (a1).toNatClampNeg))))

noncomputable def xTerms_bit (c : jS) (a0 : Int32) : Option Int32 :=
  if a0 < 0 then (
    some (0 : Int32))
  else (
    if (26 : Int32) ≤ a0 then (
      some (0 : Int32))
    else (
      some ((1 : Int32) <<< (a0 &&& 31))))

noncomputable def xTerms_isFree (c : jS) (a1 : Int32) (a2 : Int32) : Option Int32 :=
  ob (xTerms_freeLettersOf c a1) (fun r1 =>
  ob (xTerms_bit c a2) (fun r2 =>
  if (r1 &&& r2) = 0 then (
    some (0 : Int32))
  else (
    some (1 : Int32))))

noncomputable def xTerms_depthOf (c : jS) (a1 : Int32) : Option Int32 :=
  ob (xTerms_has c a1) (fun r1 =>
  if r1 = 0 then (
    some (0 : Int32))
  else (
    gd (ix a1 400) (
    some (c 14 (a1).toNatClampNeg))))

noncomputable def xTerms_freeLettersFor (c : jS) (a0 : Int32) (a1 : Int32) (a2 : Int32) (a3 : Int32) (a4 : Int32) : Option Int32 :=
  if a0 = 1 then (
    some (a1))
  else (
  if a0 = 2 then (
    some (a2 &&& (a1 ^^^ (-1 : Int32))))
  else (
  if a0 = 4 then (
    some (a2 ||| (a3 &&& (a1 ^^^ (-1 : Int32)))))
  else (
  some ((a2 ||| a3) ||| a4))))

noncomputable def xTerms_marksOf (c : jS) (a0 : Int32) : Option Int32 :=
  if a0 = 1 then (
    some (1 : Int32))
  else (
  if a0 = 2 then (
    some (4 : Int32))
  else (
  if a0 = 3 then (
    some (3 : Int32))
  else (
  if a0 = 4 then (
    some (4 : Int32))
  else (
  if a0 = 5 then (
    some (3 : Int32))
  else (
  if a0 = 6 then (
    some (4 : Int32))
  else (
  some (0 : Int32)))))))

noncomputable def xTypes_has (c : jS) (a1 : Int32) : Option Int32 :=
  if a1 < 0 then (
    some (0 : Int32))
  else (
    if (c 1 3) ≤ a1 then (
      some (0 : Int32))
    else (
      if (40 : Int32) ≤ a1 then (
        some (0 : Int32))
      else (
        some (1 : Int32))))

noncomputable def xTypes_lengthOf (c : jS) (a1 : Int32) : Option Int32 :=
  ob (xTypes_has c a1) (fun r1 =>
  if r1 = 0 then (
    some (0 : Int32))
  else (
    gd (ix a1 40) (
    some (c 4 (a1).toNatClampNeg))))

noncomputable def xTerms_widthOf (c : jS) (a1 : Int32) : Option Int32 :=
  ob (xTerms_has c a1) (fun r1 =>
  if r1 = 0 then (
    some (0 : Int32))
  else (
    gd (ix a1 400) (
    some (c 16 (a1).toNatClampNeg))))

noncomputable def xTerms_made (c : jS) (a1 : Int32) (a2 : Int32) (a3 : Int32) (a4 : Int32) (a5 : Int32) (a6 : Int32) : Option (Int32 × jS) :=
  ob (xTerms_sizeOf c a4) (fun r1 =>
  ob (xTerms_sizeOf c a5) (fun r2 =>
  ob (xTerms_sizeOf c a6) (fun r3 =>
  ob (xTerms_depthOf c a4) (fun r4 =>
  ob (xTerms_depthOf c a5) (fun r5 =>
  ob (xTerms_depthOf c a6) (fun r6 =>
  if (400 : Int32) ≤ (c 5 12) then (
    some ((-3 : Int32), c))
  else (
    if (1000 : Int32) < ((((1 : Int32) + r1) + r2) + r3) then (
      some ((-3 : Int32), c))
    else (
      if ((1 : Int32) + (if r4 < (if r5 < r6 then r6 else r5) then (if r5 < r6 then r6 else r5) else r4)) ≤ (40 : Int32) then (
        gd (ix (c 5 12) 400) (lt (su c 6 ((c 5 12)).toNatClampNeg a1) (fun c7 =>
        gd (ix (c 5 12) 400) (lt (su c7 7 ((c 5 12)).toNatClampNeg (0 : Int32)) (fun c8 =>
        gd (ix (c 5 12) 400) (lt (su c8 8 ((c 5 12)).toNatClampNeg a2) (fun c9 =>
        gd (ix (c 5 12) 400) (lt (su c9 9 ((c 5 12)).toNatClampNeg a3) (fun c10 =>
        gd (ix (c 5 12) 400) (lt (su c10 10 ((c 5 12)).toNatClampNeg a4) (fun c11 =>
        gd (ix (c 5 12) 400) (lt (su c11 11 ((c 5 12)).toNatClampNeg a5) (fun c12 =>
        gd (ix (c 5 12) 400) (lt (su c12 12 ((c 5 12)).toNatClampNeg a6) (fun c13 =>
        gd (ix (c 5 12) 400) (lt (su c13 13 ((c 5 12)).toNatClampNeg ((((1 : Int32) + r1) + r2) + r3)) (fun c14 =>
        gd (ix (c 5 12) 400) (lt (su c14 14 ((c 5 12)).toNatClampNeg ((1 : Int32) + (if r4 < (if r5 < r6 then r6 else r5) then (if r5 < r6 then r6 else r5) else r4))) (fun c15 =>
        ob (xTerms_bit c15 a2) (fun r16 =>
        ob (xTerms_freeLettersOf c15 a4) (fun r17 =>
        ob (xTerms_freeLettersOf c15 a5) (fun r18 =>
        ob (xTerms_freeLettersOf c15 a6) (fun r19 =>
        ob (xTerms_freeLettersFor c15 a1 r16 r17 r18 r19) (fun r20 =>
        gd (ix (c 5 12) 400) (lt (su c15 15 ((c 5 12)).toNatClampNeg r20) (fun c21 =>
        ob (xTerms_marksOf c21 a1) (fun r22 =>
        ob (xTypes_lengthOf c21 a3) (fun r23 =>
        ob (xTerms_widthOf c21 a4) (fun r24 =>
        ob (xTerms_widthOf c21 a5) (fun r25 =>
        ob (xTerms_widthOf c21 a6) (fun r26 =>
        gd (ix (c 5 12) 400) (lt (su c21 16 ((c 5 12)).toNatClampNeg ((((r22 + r23) + r24) + r25) + r26)) (fun c27 =>
        lt (su c27 5 12 ((c27 5 12) + (1 : Int32))) (fun c28 =>
        some ((c 5 12), c28)))))))))))))))))))))))))))))))))))
      else (
        some ((-3 : Int32), c))))))))))

noncomputable def xTerms_withParts_P40 (v1 : Int32) (v2 : Int32) (v3 : Int32) (v4 : Int32) (v5 : Int32) (c : jS) : Option (Int32 × jS) :=
  ob (xTerms_kindOf c v1) (fun r2 =>
  ob (xTerms_typeOf c v1) (fun r3 =>
  bd (xTerms_made c r2 v2 r3 v3 v4 v5) (fun r4 c5 =>
  some (r4, c5))))
noncomputable def xTerms_withParts (c : jS) (a1 : Int32) (a2 : Int32) (a3 : Int32) (a4 : Int32) (a5 : Int32) : Option (Int32 × jS) :=
  ob (xTerms_letterOf c a1) (fun r1 =>
  if a2 = r1 then (
    ob (xTerms_firstOf c a1) (fun r6 =>
    if a3 = r6 then (
      ob (xTerms_secondOf c a1) (fun r7 =>
      if a4 = r7 then (
        ob (xTerms_thirdOf c a1) (fun r8 =>
        if a5 = r8 then (
          some (a1, c))
        else (
          xTerms_withParts_P40 a1 a2 a3 a4 a5 c)))
      else (
        xTerms_withParts_P40 a1 a2 a3 a4 a5 c)))
    else (
      xTerms_withParts_P40 a1 a2 a3 a4 a5 c)))
  else (
    xTerms_withParts_P40 a1 a2 a3 a4 a5 c))

noncomputable def xDropper_withoutLets_P114 (F_withoutLets : jS → Int32 → Option (Int32 × jS)) (v1 : Int32) (v2 : Int32) (v3 : Int32) (v4 : Int32) (c : jS) : Option (Int32 × jS) :=
  ob (xTerms_letterOf c v1) (fun r12 =>
  bd (xTerms_withParts c v1 r12 v2 v3 v4) (fun r13 c14 =>
  some (r13, c14)))
noncomputable def b_xDropper_withoutLets (F_withoutLets : jS → Int32 → Option (Int32 × jS)) (c : jS) (a1 : Int32) : Option (Int32 × jS) :=
  ob (xTerms_has c a1) (fun r1 =>
  if r1 = 0 then (
    some (a1, c))
  else (
    ob (xTerms_firstOf c a1) (fun r2 =>
    bd (F_withoutLets c r2) (fun r3 c4 =>
    if r3 = (-3 : Int32) then (
      some ((-3 : Int32), c4))
    else (
      ob (xTerms_secondOf c4 a1) (fun r5 =>
      bd (F_withoutLets c4 r5) (fun r6 c7 =>
      if r6 = (-3 : Int32) then (
        some ((-3 : Int32), c7))
      else (
        ob (xTerms_thirdOf c7 a1) (fun r8 =>
        bd (F_withoutLets c7 r8) (fun r9 c10 =>
        if r9 = (-3 : Int32) then (
          some ((-3 : Int32), c10))
        else (
          ob (xTerms_kindOf c10 a1) (fun r11 =>
          if r11 = (4 : Int32) then (
            ob (xTerms_letterOf c10 a1) (fun r15 =>
            ob (xTerms_isFree c10 r6 r15) (fun r16 =>
            if r16 = 0 then (
              some (r6, c10))
            else (
              xDropper_withoutLets_P114 F_withoutLets a1 r3 r6 r9 c10))))
          else (
            xDropper_withoutLets_P114 F_withoutLets a1 r3 r6 r9 c10)))))))))))))

noncomputable def g_xDropper_withoutLets : Nat → (jS → Int32 → Option (Int32 × jS))
  | 0 => (fun _ _ => none)
  | f + 1 => (fun c a1 => b_xDropper_withoutLets (g_xDropper_withoutLets f) c a1)

noncomputable def xDropper_withoutLets (f : Nat) : jS → Int32 → Option (Int32 × jS) := (g_xDropper_withoutLets f)

theorem xDropper_withoutLets_s (f : Nat) : xDropper_withoutLets (f + 1) = b_xDropper_withoutLets (xDropper_withoutLets f) := rfl

noncomputable def xPrinter_printLength (c : jS) : Option Int32 :=
  some (c 26 3)

noncomputable def xPrinter_byteAt (c : jS) (a1 : Int32) : Option Int32 :=
  if a1 < 0 then (
    some (-1 : Int32))
  else (
    if (c 26 3) ≤ a1 then (
      some (-1 : Int32))
    else (
      if (4000 : Int32) ≤ a1 then (
        some (-1 : Int32))
      else (
        gd (ix a1 4000) (
        some ((c 27 (a1).toNatClampNeg) &&& (255 : Int32))))))

noncomputable def xPrinter_write (c : jS) (a1 : Int32) : Option (Unit × jS) :=
  if (c 26 3) < 0 then (
    some ((), c))
  else (
    if (4000 : Int32) ≤ (c 26 3) then (
      some ((), c))
    else (
      gd (ix (c 26 3) 4000) (lt (su c 27 ((c 26 3)).toNatClampNeg (vp_nar .byte a1.toInt8.toInt32)) (fun c1 =>
      lt (su c1 26 3 ((c1 26 3) + (1 : Int32))) (fun c2 =>
      some ((), c2))))))

noncomputable def xPrinter_writeNumber_P91_41 (v1 : Int32) (v5 : Int32) (c : jS) : Option ((Int32 × Int64 × Int32 × Int32 × jS) ⊕ (Unit × jS)) :=
  if 0 ≤ v1 then (
    some (Sum.inr ((), c)))
  else (
    if (4000 : Int32) ≤ v5 then (
      some (Sum.inr ((), c)))
    else (
      gd (ix v5 4000) (lt (su c 27 (v5).toNatClampNeg (vp_nar .byte (45 : Int32))) (fun c1 =>
      some (Sum.inr ((), c1))))))
noncomputable def xPrinter_writeNumber_S41 (v1 : Int32) (v3 : Int64) (v5 : Int32) (v6 : Int32) (c : jS) : Option ((Int32 × Int64 × Int32 × Int32 × jS) ⊕ (Unit × jS)) :=
  if v6 < v5 then (
    xPrinter_writeNumber_P91_41 v1 v5 c)
  else (
    if v6 < 0 then (
      xPrinter_writeNumber_P91_41 v1 v5 c)
    else (
      if (4000 : Int32) ≤ v6 then (
        xPrinter_writeNumber_P91_41 v1 v5 c)
      else (
        gd (nz64 (10 : Int64)) (
        gd (ix v6 4000) (lt (su c 27 (v6).toNatClampNeg (vp_nar .byte ((48 : Int64) + (v3 - v3 / (10 : Int64) * (10 : Int64))).toInt32.toInt8.toInt32)) (fun c2 =>
        gd (nz64 (10 : Int64)) (
        some (Sum.inl (v1, (v3 / (10 : Int64)), v5, (v6 - (1 : Int32)), c2)))))))))
noncomputable def xPrinter_writeNumber_L41 (v1 : Int32) (v3 : Int64) (v5 : Int32) (v6 : Int32) (c : jS) : Option (Unit × jS) :=
  lp (fun s : (Int32 × Int64 × Int32 × Int32 × jS) => xPrinter_writeNumber_S41 s.1 s.2.1 s.2.2.1 s.2.2.2.1 s.2.2.2.2) (v1, v3, v5, v6, c)
noncomputable def xPrinter_writeNumber_S15 (v1 : Int32) (v2 : Int32) (v3 : Int64) (v5 : Int32) (v6 : Int32) (c : jS) : Option ((Int32 × Int32 × Int64 × Int32 × Int32 × jS) ⊕ (Unit × jS)) :=
  if v2 ≤ v6 then (
    om (xPrinter_writeNumber_L41 v1 v3 v5 ((c 26 3) - (1 : Int32)) c))
  else (
    bd (xPrinter_write c (48 : Int32)) (fun _ c3 =>
    some (Sum.inl (v1, v2, v3, v5, (v6 + (1 : Int32)), c3))))
noncomputable def xPrinter_writeNumber_L15 (v1 : Int32) (v2 : Int32) (v3 : Int64) (v5 : Int32) (v6 : Int32) (c : jS) : Option (Unit × jS) :=
  lp (fun s : (Int32 × Int32 × Int64 × Int32 × Int32 × jS) => xPrinter_writeNumber_S15 s.1 s.2.1 s.2.2.1 s.2.2.2.1 s.2.2.2.2.1 s.2.2.2.2.2) (v1, v2, v3, v5, v6, c)
noncomputable def xPrinter_writeNumber (c : jS) (a1 : Int32) (a2 : Int32) : Option (Unit × jS) :=
  xPrinter_writeNumber_L15 a1 a2 (if 0 < a1.toInt64 then a1.toInt64 else -a1.toInt64) (c 26 3) (0 : Int32) c

noncomputable def xPrinter_writeLetter (c : jS) (a1 : Int32) : Option (Unit × jS) :=
  bd (xPrinter_write c ((97 : Int32) + a1)) (fun _ c1 =>
  some ((), c1))

noncomputable def xTypes_fromOf (c : jS) (a1 : Int32) : Option Int32 :=
  ob (xTypes_has c a1) (fun r1 =>
  if r1 = 0 then (
    some (-2 : Int32))
  else (
    gd (ix a1 40) (
    some (c 2 (a1).toNatClampNeg))))

noncomputable def xTypes_toOf (c : jS) (a1 : Int32) : Option Int32 :=
  ob (xTypes_has c a1) (fun r1 =>
  if r1 = 0 then (
    some (-2 : Int32))
  else (
    gd (ix a1 40) (
    some (c 3 (a1).toNatClampNeg))))

noncomputable def b_xPrinter_writeType (F_writeType : jS → Int32 → Option (Unit × jS)) (c : jS) (a1 : Int32) : Option (Unit × jS) :=
  if a1 ≤ 0 then (
    bd (xPrinter_write c (105 : Int32)) (fun _ c1 =>
    some ((), c1)))
  else (
    ob (xTypes_has c a1) (fun r2 =>
    if r2 = 0 then (
      bd (xPrinter_write c (105 : Int32)) (fun _ c10 =>
      some ((), c10)))
    else (
      bd (xPrinter_write c (40 : Int32)) (fun _ c3 =>
      ob (xTypes_fromOf c3 a1) (fun r4 =>
      bd (F_writeType c3 r4) (fun _ c5 =>
      bd (xPrinter_write c5 (62 : Int32)) (fun _ c6 =>
      ob (xTypes_toOf c6 a1) (fun r7 =>
      bd (F_writeType c6 r7) (fun _ c8 =>
      bd (xPrinter_write c8 (41 : Int32)) (fun _ c9 =>
      some ((), c9)))))))))))

noncomputable def g_xPrinter_writeType : Nat → (jS → Int32 → Option (Unit × jS))
  | 0 => (fun _ _ => none)
  | f + 1 => (fun c a1 => b_xPrinter_writeType (g_xPrinter_writeType f) c a1)

noncomputable def xPrinter_writeType (f : Nat) : jS → Int32 → Option (Unit × jS) := (g_xPrinter_writeType f)

theorem xPrinter_writeType_s (f : Nat) : xPrinter_writeType (f + 1) = b_xPrinter_writeType (xPrinter_writeType f) := rfl

noncomputable def b_xPrinter_writeTerm (F_writeTerm : jS → Int32 → Option (Unit × jS)) (F_writeFunction : jS → Int32 → Option (Unit × jS)) (F_writePair : jS → Int32 → Int32 → Option (Unit × jS)) (F_writeLet : jS → Int32 → Option (Unit × jS)) (F_writeChoice : jS → Int32 → Option (Unit × jS)) (c : jS) (a1 : Int32) : Option (Unit × jS) :=
  ob (xTerms_kindOf c a1) (fun r1 =>
  if r1 = 0 then (
    ob (xTerms_numberOf c a1) (fun r2 =>
    ob (xTerms_widthOf c a1) (fun r3 =>
    bd (xPrinter_writeNumber c r2 r3) (fun _ c4 =>
    some ((), c4)))))
  else (
  if r1 = 1 then (
    ob (xTerms_letterOf c a1) (fun r5 =>
    bd (xPrinter_writeLetter c r5) (fun _ c6 =>
    some ((), c6))))
  else (
  if r1 = 2 then (
    bd (F_writeFunction c a1) (fun _ c7 =>
    some ((), c7)))
  else (
  if r1 = 3 then (
    bd (F_writePair c a1 (32 : Int32)) (fun _ c8 =>
    some ((), c8)))
  else (
  if r1 = 4 then (
    bd (F_writeLet c a1) (fun _ c9 =>
    some ((), c9)))
  else (
  if r1 = 5 then (
    bd (F_writePair c a1 (43 : Int32)) (fun _ c10 =>
    some ((), c10)))
  else (
  if r1 = 6 then (
    bd (F_writeChoice c a1) (fun _ c11 =>
    some ((), c11)))
  else (
  some ((), c)))))))))

noncomputable def b_xPrinter_writeFunction (F_writeTerm : jS → Int32 → Option (Unit × jS)) (F_writeFunction : jS → Int32 → Option (Unit × jS)) (F_writePair : jS → Int32 → Int32 → Option (Unit × jS)) (F_writeLet : jS → Int32 → Option (Unit × jS)) (F_writeChoice : jS → Int32 → Option (Unit × jS)) (c : jS) (a1 : Int32) : Option (Unit × jS) :=
  bd (xPrinter_write c (92 : Int32)) (fun _ c1 =>
  ob (xTerms_letterOf c1 a1) (fun r2 =>
  bd (xPrinter_writeLetter c1 r2) (fun _ c3 =>
  bd (xPrinter_write c3 (58 : Int32)) (fun _ c4 =>
  ob (xTerms_typeOf c4 a1) (fun r5 =>
  bd (xPrinter_writeType 130 c4 r5) (fun _ c6 =>
  bd (xPrinter_write c6 (46 : Int32)) (fun _ c7 =>
  ob (xTerms_firstOf c7 a1) (fun r8 =>
  bd (F_writeTerm c7 r8) (fun _ c9 =>
  some ((), c9))))))))))

noncomputable def b_xPrinter_writePair (F_writeTerm : jS → Int32 → Option (Unit × jS)) (F_writeFunction : jS → Int32 → Option (Unit × jS)) (F_writePair : jS → Int32 → Int32 → Option (Unit × jS)) (F_writeLet : jS → Int32 → Option (Unit × jS)) (F_writeChoice : jS → Int32 → Option (Unit × jS)) (c : jS) (a1 : Int32) (a2 : Int32) : Option (Unit × jS) :=
  bd (xPrinter_write c (40 : Int32)) (fun _ c1 =>
  ob (xTerms_firstOf c1 a1) (fun r2 =>
  bd (F_writeTerm c1 r2) (fun _ c3 =>
  bd (xPrinter_write c3 a2) (fun _ c4 =>
  ob (xTerms_secondOf c4 a1) (fun r5 =>
  bd (F_writeTerm c4 r5) (fun _ c6 =>
  bd (xPrinter_write c6 (41 : Int32)) (fun _ c7 =>
  some ((), c7))))))))

noncomputable def b_xPrinter_writeLet (F_writeTerm : jS → Int32 → Option (Unit × jS)) (F_writeFunction : jS → Int32 → Option (Unit × jS)) (F_writePair : jS → Int32 → Int32 → Option (Unit × jS)) (F_writeLet : jS → Int32 → Option (Unit × jS)) (F_writeChoice : jS → Int32 → Option (Unit × jS)) (c : jS) (a1 : Int32) : Option (Unit × jS) :=
  bd (xPrinter_write c (91 : Int32)) (fun _ c1 =>
  ob (xTerms_letterOf c1 a1) (fun r2 =>
  bd (xPrinter_writeLetter c1 r2) (fun _ c3 =>
  bd (xPrinter_write c3 (61 : Int32)) (fun _ c4 =>
  ob (xTerms_firstOf c4 a1) (fun r5 =>
  bd (F_writeTerm c4 r5) (fun _ c6 =>
  bd (xPrinter_write c6 (93 : Int32)) (fun _ c7 =>
  ob (xTerms_secondOf c7 a1) (fun r8 =>
  bd (F_writeTerm c7 r8) (fun _ c9 =>
  some ((), c9))))))))))

noncomputable def b_xPrinter_writeChoice (F_writeTerm : jS → Int32 → Option (Unit × jS)) (F_writeFunction : jS → Int32 → Option (Unit × jS)) (F_writePair : jS → Int32 → Int32 → Option (Unit × jS)) (F_writeLet : jS → Int32 → Option (Unit × jS)) (F_writeChoice : jS → Int32 → Option (Unit × jS)) (c : jS) (a1 : Int32) : Option (Unit × jS) :=
  bd (xPrinter_write c (123 : Int32)) (fun _ c1 =>
  ob (xTerms_firstOf c1 a1) (fun r2 =>
  bd (F_writeTerm c1 r2) (fun _ c3 =>
  bd (xPrinter_write c3 (63 : Int32)) (fun _ c4 =>
  ob (xTerms_secondOf c4 a1) (fun r5 =>
  bd (F_writeTerm c4 r5) (fun _ c6 =>
  bd (xPrinter_write c6 (58 : Int32)) (fun _ c7 =>
  ob (xTerms_thirdOf c7 a1) (fun r8 =>
  bd (F_writeTerm c7 r8) (fun _ c9 =>
  bd (xPrinter_write c9 (125 : Int32)) (fun _ c10 =>
  some ((), c10)))))))))))

noncomputable def g_xPrinter_writeTerm : Nat → (jS → Int32 → Option (Unit × jS)) × (jS → Int32 → Option (Unit × jS)) × (jS → Int32 → Int32 → Option (Unit × jS)) × (jS → Int32 → Option (Unit × jS)) × (jS → Int32 → Option (Unit × jS))
  | 0 => ((fun _ _ => none), (fun _ _ => none), (fun _ _ _ => none), (fun _ _ => none), (fun _ _ => none))
  | f + 1 => ((fun c a1 => b_xPrinter_writeTerm (g_xPrinter_writeTerm f).1 (g_xPrinter_writeTerm f).2.1 (g_xPrinter_writeTerm f).2.2.1 (g_xPrinter_writeTerm f).2.2.2.1 (g_xPrinter_writeTerm f).2.2.2.2 c a1), (fun c a1 => b_xPrinter_writeFunction (g_xPrinter_writeTerm f).1 (g_xPrinter_writeTerm f).2.1 (g_xPrinter_writeTerm f).2.2.1 (g_xPrinter_writeTerm f).2.2.2.1 (g_xPrinter_writeTerm f).2.2.2.2 c a1), (fun c a1 a2 => b_xPrinter_writePair (g_xPrinter_writeTerm f).1 (g_xPrinter_writeTerm f).2.1 (g_xPrinter_writeTerm f).2.2.1 (g_xPrinter_writeTerm f).2.2.2.1 (g_xPrinter_writeTerm f).2.2.2.2 c a1 a2), (fun c a1 => b_xPrinter_writeLet (g_xPrinter_writeTerm f).1 (g_xPrinter_writeTerm f).2.1 (g_xPrinter_writeTerm f).2.2.1 (g_xPrinter_writeTerm f).2.2.2.1 (g_xPrinter_writeTerm f).2.2.2.2 c a1), (fun c a1 => b_xPrinter_writeChoice (g_xPrinter_writeTerm f).1 (g_xPrinter_writeTerm f).2.1 (g_xPrinter_writeTerm f).2.2.1 (g_xPrinter_writeTerm f).2.2.2.1 (g_xPrinter_writeTerm f).2.2.2.2 c a1))

noncomputable def xPrinter_writeTerm (f : Nat) : jS → Int32 → Option (Unit × jS) := (g_xPrinter_writeTerm f).1

noncomputable def xPrinter_writeFunction (f : Nat) : jS → Int32 → Option (Unit × jS) := (g_xPrinter_writeTerm f).2.1

noncomputable def xPrinter_writePair (f : Nat) : jS → Int32 → Int32 → Option (Unit × jS) := (g_xPrinter_writeTerm f).2.2.1

noncomputable def xPrinter_writeLet (f : Nat) : jS → Int32 → Option (Unit × jS) := (g_xPrinter_writeTerm f).2.2.2.1

noncomputable def xPrinter_writeChoice (f : Nat) : jS → Int32 → Option (Unit × jS) := (g_xPrinter_writeTerm f).2.2.2.2

theorem xPrinter_writeTerm_s (f : Nat) : xPrinter_writeTerm (f + 1) = b_xPrinter_writeTerm (xPrinter_writeTerm f) (xPrinter_writeFunction f) (xPrinter_writePair f) (xPrinter_writeLet f) (xPrinter_writeChoice f) := rfl

theorem xPrinter_writeFunction_s (f : Nat) : xPrinter_writeFunction (f + 1) = b_xPrinter_writeFunction (xPrinter_writeTerm f) (xPrinter_writeFunction f) (xPrinter_writePair f) (xPrinter_writeLet f) (xPrinter_writeChoice f) := rfl

theorem xPrinter_writePair_s (f : Nat) : xPrinter_writePair (f + 1) = b_xPrinter_writePair (xPrinter_writeTerm f) (xPrinter_writeFunction f) (xPrinter_writePair f) (xPrinter_writeLet f) (xPrinter_writeChoice f) := rfl

theorem xPrinter_writeLet_s (f : Nat) : xPrinter_writeLet (f + 1) = b_xPrinter_writeLet (xPrinter_writeTerm f) (xPrinter_writeFunction f) (xPrinter_writePair f) (xPrinter_writeLet f) (xPrinter_writeChoice f) := rfl

theorem xPrinter_writeChoice_s (f : Nat) : xPrinter_writeChoice (f + 1) = b_xPrinter_writeChoice (xPrinter_writeTerm f) (xPrinter_writeFunction f) (xPrinter_writePair f) (xPrinter_writeLet f) (xPrinter_writeChoice f) := rfl

noncomputable def xPrinter_show (c : jS) (a1 : Int32) : Option (Int32 × jS) :=
  ob (xTerms_widthOf c a1) (fun r1 =>
  if r1 ≤ (4000 : Int32) then (
    lt (su c 26 3 (0 : Int32)) (fun c2 =>
    bd (xPrinter_writeTerm 130 c2 a1) (fun _ c3 =>
    some ((c3 26 3), c3))))
  else (
    some ((-3 : Int32), c)))

noncomputable def xPutter_letterFor_S17 (v2 : Int32) (v3 : Int32) (v4 : Int32) (c : jS) : Option ((Int32 × Int32 × Int32) ⊕ Int32) :=
  if (26 : Int32) ≤ v4 then (
    some (Sum.inr (-3 : Int32)))
  else (
    ob (xTerms_isFree c v2 v4) (fun r2 =>
    if r2 = 0 then (
      ob (xTerms_isFree c v3 v4) (fun r3 =>
      if r3 = 0 then (
        some (Sum.inr (v4)))
      else (
        some (Sum.inl (v2, v3, (v4 + (1 : Int32)))))))
    else (
      some (Sum.inl (v2, v3, (v4 + (1 : Int32)))))))
noncomputable def xPutter_letterFor_L17 (v2 : Int32) (v3 : Int32) (v4 : Int32) (c : jS) : Option Int32 :=
  lp (fun s : (Int32 × Int32 × Int32) => xPutter_letterFor_S17 s.1 s.2.1 s.2.2 c) (v2, v3, v4)
noncomputable def xPutter_letterFor (c : jS) (a1 : Int32) (a2 : Int32) (a3 : Int32) : Option Int32 :=
  ob (xTerms_isFree c a3 a1) (fun r1 =>
  if r1 = 0 then (
    some (a1))
  else (
    xPutter_letterFor_L17 a2 a3 (0 : Int32) c))

noncomputable def xTerms_newName (c : jS) (a1 : Int32) : Option (Int32 × jS) :=
  bd (xTerms_made c (1 : Int32) a1 (-2 : Int32) (-2 : Int32) (-2 : Int32) (-2 : Int32)) (fun r1 c2 =>
  some (r1, c2))

noncomputable def b_xPutter_into (F_into : jS → Int32 → Int32 → Int32 → Option (Int32 × jS)) (F_intoFunction : jS → Int32 → Int32 → Int32 → Option (Int32 × jS)) (F_intoBody : jS → Int32 → Int32 → Int32 → Int32 → Int32 → Option (Int32 × jS)) (F_intoLet : jS → Int32 → Int32 → Int32 → Option (Int32 × jS)) (F_intoParts : jS → Int32 → Int32 → Int32 → Option (Int32 × jS)) (c : jS) (a1 : Int32) (a2 : Int32) (a3 : Int32) : Option (Int32 × jS) :=
  ob (xTerms_isFree c a1 a2) (fun r1 =>
  if r1 = 0 then (
    some (a1, c))
  else (
    ob (xTerms_kindOf c a1) (fun r2 =>
    if r2 = 1 then (
      some (a3, c))
    else (
    if r2 = 2 then (
      bd (F_intoFunction c a1 a2 a3) (fun r3 c4 =>
      some (r3, c4)))
    else (
    if r2 = 4 then (
      bd (F_intoLet c a1 a2 a3) (fun r5 c6 =>
      some (r5, c6)))
    else (
    bd (F_intoParts c a1 a2 a3) (fun r7 c8 =>
    some (r7, c8))))))))

noncomputable def b_xPutter_intoFunction (F_into : jS → Int32 → Int32 → Int32 → Option (Int32 × jS)) (F_intoFunction : jS → Int32 → Int32 → Int32 → Option (Int32 × jS)) (F_intoBody : jS → Int32 → Int32 → Int32 → Int32 → Int32 → Option (Int32 × jS)) (F_intoLet : jS → Int32 → Int32 → Int32 → Option (Int32 × jS)) (F_intoParts : jS → Int32 → Int32 → Int32 → Option (Int32 × jS)) (c : jS) (a1 : Int32) (a2 : Int32) (a3 : Int32) : Option (Int32 × jS) :=
  ob (xTerms_firstOf c a1) (fun r1 =>
  ob (xTerms_letterOf c a1) (fun r2 =>
  ob (xPutter_letterFor c r2 r1 a3) (fun r3 =>
  ob (xTerms_letterOf c a1) (fun r4 =>
  bd (F_intoBody c r1 r4 r3 a2 a3) (fun r5 c6 =>
  if 0 ≤ r5 then (
    bd (xTerms_withParts c6 a1 r3 r5 (-2 : Int32) (-2 : Int32)) (fun r7 c8 =>
    some (r7, c8)))
  else (
    some ((-3 : Int32), c6)))))))

noncomputable def b_xPutter_intoBody (F_into : jS → Int32 → Int32 → Int32 → Option (Int32 × jS)) (F_intoFunction : jS → Int32 → Int32 → Int32 → Option (Int32 × jS)) (F_intoBody : jS → Int32 → Int32 → Int32 → Int32 → Int32 → Option (Int32 × jS)) (F_intoLet : jS → Int32 → Int32 → Int32 → Option (Int32 × jS)) (F_intoParts : jS → Int32 → Int32 → Int32 → Option (Int32 × jS)) (c : jS) (a1 : Int32) (a2 : Int32) (a3 : Int32) (a4 : Int32) (a5 : Int32) : Option (Int32 × jS) :=
  if 0 ≤ a3 then (
    if a3 = a2 then (
      bd (F_into c a1 a4 a5) (fun r7 c8 =>
      some (r7, c8)))
    else (
      bd (xTerms_newName c a3) (fun r1 c2 =>
      if 0 ≤ r1 then (
        bd (F_into c2 a1 a2 r1) (fun r3 c4 =>
        if 0 ≤ r3 then (
          bd (F_into c4 r3 a4 a5) (fun r5 c6 =>
          some (r5, c6)))
        else (
          some ((-3 : Int32), c4))))
      else (
        some ((-3 : Int32), c2)))))
  else (
    some ((-3 : Int32), c))

noncomputable def b_xPutter_intoLet (F_into : jS → Int32 → Int32 → Int32 → Option (Int32 × jS)) (F_intoFunction : jS → Int32 → Int32 → Int32 → Option (Int32 × jS)) (F_intoBody : jS → Int32 → Int32 → Int32 → Int32 → Int32 → Option (Int32 × jS)) (F_intoLet : jS → Int32 → Int32 → Int32 → Option (Int32 × jS)) (F_intoParts : jS → Int32 → Int32 → Int32 → Option (Int32 × jS)) (c : jS) (a1 : Int32) (a2 : Int32) (a3 : Int32) : Option (Int32 × jS) :=
  ob (xTerms_letterOf c a1) (fun r1 =>
  ob (xTerms_secondOf c a1) (fun r2 =>
  ob (xTerms_firstOf c a1) (fun r3 =>
  bd (F_into c r3 a2 a3) (fun r4 c5 =>
  if 0 ≤ r4 then (
    if r1 = a2 then (
      bd (xTerms_withParts c5 a1 r1 r4 r2 (-2 : Int32)) (fun r6 c7 =>
      some (r6, c7)))
    else (
      ob (xTerms_isFree c5 r2 a2) (fun r8 =>
      if r8 = 0 then (
        bd (xTerms_withParts c5 a1 r1 r4 r2 (-2 : Int32)) (fun r14 c15 =>
        some (r14, c15)))
      else (
        ob (xPutter_letterFor c5 r1 r2 a3) (fun r9 =>
        bd (F_intoBody c5 r2 r1 r9 a2 a3) (fun r10 c11 =>
        if 0 ≤ r10 then (
          bd (xTerms_withParts c11 a1 r9 r4 r10 (-2 : Int32)) (fun r12 c13 =>
          some (r12, c13)))
        else (
          some ((-3 : Int32), c11))))))))
  else (
    some ((-3 : Int32), c5))))))

noncomputable def b_xPutter_intoParts (F_into : jS → Int32 → Int32 → Int32 → Option (Int32 × jS)) (F_intoFunction : jS → Int32 → Int32 → Int32 → Option (Int32 × jS)) (F_intoBody : jS → Int32 → Int32 → Int32 → Int32 → Int32 → Option (Int32 × jS)) (F_intoLet : jS → Int32 → Int32 → Int32 → Option (Int32 × jS)) (F_intoParts : jS → Int32 → Int32 → Int32 → Option (Int32 × jS)) (c : jS) (a1 : Int32) (a2 : Int32) (a3 : Int32) : Option (Int32 × jS) :=
  ob (xTerms_firstOf c a1) (fun r1 =>
  bd (F_into c r1 a2 a3) (fun r2 c3 =>
  if r2 = (-3 : Int32) then (
    some ((-3 : Int32), c3))
  else (
    ob (xTerms_secondOf c3 a1) (fun r4 =>
    bd (F_into c3 r4 a2 a3) (fun r5 c6 =>
    if r5 = (-3 : Int32) then (
      some ((-3 : Int32), c6))
    else (
      ob (xTerms_thirdOf c6 a1) (fun r7 =>
      bd (F_into c6 r7 a2 a3) (fun r8 c9 =>
      if r8 = (-3 : Int32) then (
        some ((-3 : Int32), c9))
      else (
        ob (xTerms_letterOf c9 a1) (fun r10 =>
        bd (xTerms_withParts c9 a1 r10 r2 r5 r8) (fun r11 c12 =>
        some (r11, c12))))))))))))

noncomputable def g_xPutter_into : Nat → (jS → Int32 → Int32 → Int32 → Option (Int32 × jS)) × (jS → Int32 → Int32 → Int32 → Option (Int32 × jS)) × (jS → Int32 → Int32 → Int32 → Int32 → Int32 → Option (Int32 × jS)) × (jS → Int32 → Int32 → Int32 → Option (Int32 × jS)) × (jS → Int32 → Int32 → Int32 → Option (Int32 × jS))
  | 0 => ((fun _ _ _ _ => none), (fun _ _ _ _ => none), (fun _ _ _ _ _ _ => none), (fun _ _ _ _ => none), (fun _ _ _ _ => none))
  | f + 1 => ((fun c a1 a2 a3 => b_xPutter_into (g_xPutter_into f).1 (g_xPutter_into f).2.1 (g_xPutter_into f).2.2.1 (g_xPutter_into f).2.2.2.1 (g_xPutter_into f).2.2.2.2 c a1 a2 a3), (fun c a1 a2 a3 => b_xPutter_intoFunction (g_xPutter_into f).1 (g_xPutter_into f).2.1 (g_xPutter_into f).2.2.1 (g_xPutter_into f).2.2.2.1 (g_xPutter_into f).2.2.2.2 c a1 a2 a3), (fun c a1 a2 a3 a4 a5 => b_xPutter_intoBody (g_xPutter_into f).1 (g_xPutter_into f).2.1 (g_xPutter_into f).2.2.1 (g_xPutter_into f).2.2.2.1 (g_xPutter_into f).2.2.2.2 c a1 a2 a3 a4 a5), (fun c a1 a2 a3 => b_xPutter_intoLet (g_xPutter_into f).1 (g_xPutter_into f).2.1 (g_xPutter_into f).2.2.1 (g_xPutter_into f).2.2.2.1 (g_xPutter_into f).2.2.2.2 c a1 a2 a3), (fun c a1 a2 a3 => b_xPutter_intoParts (g_xPutter_into f).1 (g_xPutter_into f).2.1 (g_xPutter_into f).2.2.1 (g_xPutter_into f).2.2.2.1 (g_xPutter_into f).2.2.2.2 c a1 a2 a3))

noncomputable def xPutter_into (f : Nat) : jS → Int32 → Int32 → Int32 → Option (Int32 × jS) := (g_xPutter_into f).1

noncomputable def xPutter_intoFunction (f : Nat) : jS → Int32 → Int32 → Int32 → Option (Int32 × jS) := (g_xPutter_into f).2.1

noncomputable def xPutter_intoBody (f : Nat) : jS → Int32 → Int32 → Int32 → Int32 → Int32 → Option (Int32 × jS) := (g_xPutter_into f).2.2.1

noncomputable def xPutter_intoLet (f : Nat) : jS → Int32 → Int32 → Int32 → Option (Int32 × jS) := (g_xPutter_into f).2.2.2.1

noncomputable def xPutter_intoParts (f : Nat) : jS → Int32 → Int32 → Int32 → Option (Int32 × jS) := (g_xPutter_into f).2.2.2.2

theorem xPutter_into_s (f : Nat) : xPutter_into (f + 1) = b_xPutter_into (xPutter_into f) (xPutter_intoFunction f) (xPutter_intoBody f) (xPutter_intoLet f) (xPutter_intoParts f) := rfl

theorem xPutter_intoFunction_s (f : Nat) : xPutter_intoFunction (f + 1) = b_xPutter_intoFunction (xPutter_into f) (xPutter_intoFunction f) (xPutter_intoBody f) (xPutter_intoLet f) (xPutter_intoParts f) := rfl

theorem xPutter_intoBody_s (f : Nat) : xPutter_intoBody (f + 1) = b_xPutter_intoBody (xPutter_into f) (xPutter_intoFunction f) (xPutter_intoBody f) (xPutter_intoLet f) (xPutter_intoParts f) := rfl

theorem xPutter_intoLet_s (f : Nat) : xPutter_intoLet (f + 1) = b_xPutter_intoLet (xPutter_into f) (xPutter_intoFunction f) (xPutter_intoBody f) (xPutter_intoLet f) (xPutter_intoParts f) := rfl

theorem xPutter_intoParts_s (f : Nat) : xPutter_intoParts (f + 1) = b_xPutter_intoParts (xPutter_into f) (xPutter_intoFunction f) (xPutter_intoBody f) (xPutter_intoLet f) (xPutter_intoParts f) := rfl

noncomputable def xReader_tapeLength (c : jS) : Option Int32 :=
  some (c 28 3)

noncomputable def xReader_add (c : jS) (a1 : Int32) : Option (Unit × jS) :=
  if (c 28 3) < 0 then (
    some ((), c))
  else (
    if (600 : Int32) ≤ (c 28 3) then (
      some ((), c))
    else (
      gd (ix (c 28 3) 600) (lt (su c 29 ((c 28 3)).toNatClampNeg (vp_nar .byte a1.toInt8.toInt32)) (fun c1 =>
      lt (su c1 28 3 ((c1 28 3) + (1 : Int32))) (fun c2 =>
      some ((), c2))))))

noncomputable def xReader_addBytes_S33 (v1 : Int64) (v4 : Int32) (c : jS) : Option ((Int64 × Int32 × jS) ⊕ (Int32 × jS)) :=
  if v4 < 0 then (
    some (Sum.inr ((c 28 3), c)))
  else (
    bd (xReader_add c (v1.toUInt64 >>> (((8 : Int32) * v4).toInt64.toUInt64 &&& Int64.toUInt64 63)).toInt64.toInt32) (fun _ c1 =>
    some (Sum.inl (v1, (v4 - (1 : Int32)), c1))))
noncomputable def xReader_addBytes_L33 (v1 : Int64) (v4 : Int32) (c : jS) : Option (Int32 × jS) :=
  lp (fun s : (Int64 × Int32 × jS) => xReader_addBytes_S33 s.1 s.2.1 s.2.2) (v1, v4, c)
noncomputable def xReader_addBytes (c : jS) (a1 : Int64) (a3 : Int32) : Option (Int32 × jS) :=
  if a3 < (1 : Int32) then (
    some ((-1 : Int32), c))
  else (
    if a3 ≤ (8 : Int32) then (
      if ((c 28 3) + a3) ≤ (600 : Int32) then (
        xReader_addBytes_L33 a1 (a3 - (1 : Int32)) c)
      else (
        some ((-3 : Int32), c)))
    else (
      some ((-1 : Int32), c)))

noncomputable def xReader_takeFrom_S22 (v2 : Int32) (v3 : Int32) (c : jS) : Option ((Int32 × Int32 × jS) ⊕ (Int32 × jS)) :=
  if v2 ≤ v3 then (
    some (Sum.inr ((c 28 3), c)))
  else (
    ob (xPrinter_byteAt c v3) (fun r3 =>
    bd (xReader_add c r3) (fun _ c4 =>
    some (Sum.inl (v2, (v3 + (1 : Int32)), c4)))))
noncomputable def xReader_takeFrom_L22 (v2 : Int32) (v3 : Int32) (c : jS) : Option (Int32 × jS) :=
  lp (fun s : (Int32 × Int32 × jS) => xReader_takeFrom_S22 s.1 s.2.1 s.2.2) (v2, v3, c)
noncomputable def xReader_takeFrom (c : jS) : Option (Int32 × jS) :=
  ob (xPrinter_printLength c) (fun r1 =>
  if r1 ≤ (600 : Int32) then (
    lt (su c 28 3 (0 : Int32)) (fun c2 =>
    xReader_takeFrom_L22 r1 (0 : Int32) c2))
  else (
    some ((-3 : Int32), c)))

noncomputable def xTerms_total (c : jS) : Option Int32 :=
  some (c 5 12)

noncomputable def xTypes_total (c : jS) : Option Int32 :=
  some (c 1 3)

noncomputable def xReader_byteHere (c : jS) : Option Int32 :=
  if (c 28 4) < 0 then (
    some (-2 : Int32))
  else (
    if (c 28 3) ≤ (c 28 4) then (
      some (-2 : Int32))
    else (
      if (600 : Int32) ≤ (c 28 4) then (
        some (-2 : Int32))
      else (
        gd (ix (c 28 4) 600) (
        some ((c 29 ((c 28 4)).toNatClampNeg) &&& (255 : Int32))))))

noncomputable def xReader_isDigit (c : jS) (a0 : Int32) : Option Int32 :=
  if a0 < (48 : Int32) then (
    some (0 : Int32))
  else (
    if (57 : Int32) < a0 then (
      some (0 : Int32))
    else (
      some (1 : Int32)))

noncomputable def xReader_beginsTerm (c : jS) (a0 : Int32) : Option Int32 :=
  ob (xReader_isDigit c a0) (fun r1 =>
  if r1 = 0 then (
    ob (xc_isLetter c (a0 - (97 : Int32))) (fun r2 =>
    if r2 = 0 then (
      if a0 = (45 : Int32) then (
        some (1 : Int32))
      else (
        if a0 = (92 : Int32) then (
          some (1 : Int32))
        else (
          if a0 = (40 : Int32) then (
            some (1 : Int32))
          else (
            if a0 = (91 : Int32) then (
              some (1 : Int32))
            else (
              if a0 = (123 : Int32) then (
                some (1 : Int32))
              else (
                some (0 : Int32)))))))
    else (
      some (1 : Int32))))
  else (
    some (1 : Int32)))

noncomputable def xReader_wrongHere (c : jS) : Option Int32 :=
  some ((-10 : Int32) - (c 28 4))

noncomputable def xReader_pass (c : jS) (a1 : Int32) : Option (Int32 × jS) :=
  ob (xReader_byteHere c) (fun r1 =>
  if r1 = a1 then (
    lt (su c 28 4 ((c 28 4) + (1 : Int32))) (fun c2 =>
    some ((0 : Int32), c2)))
  else (
    ob (xReader_wrongHere c) (fun r3 =>
    some (r3, c))))

noncomputable def xReader_letterBehind (c : jS) (a1 : Int32) : Option (Int32 × jS) :=
  bd (xReader_pass c a1) (fun r1 c2 =>
  if 0 ≤ r1 then (
    ob (xReader_byteHere c2) (fun r3 =>
    ob (xc_isLetter c2 (r3 - (97 : Int32))) (fun r4 =>
    if r4 = 0 then (
      ob (xReader_wrongHere c2) (fun r6 =>
      some (r6, c2)))
    else (
      lt (su c2 28 4 ((c2 28 4) + (1 : Int32))) (fun c5 =>
      some ((r3 - (97 : Int32)), c5))))))
  else (
    some (r1, c2)))

noncomputable def xReader_beginsType (c : jS) (a0 : Int32) : Option Int32 :=
  if a0 = (105 : Int32) then (
    some (1 : Int32))
  else (
    if a0 = (40 : Int32) then (
      some (1 : Int32))
    else (
      some (0 : Int32)))

noncomputable def xTypes_arrowOf_P44_2 (v1 : Int32) (v2 : Int32) (c : jS) : Option ((Int32 × Int32 × Int32 × jS) ⊕ (Int32 × jS)) :=
  ob (xTypes_lengthOf c v1) (fun r1 =>
  ob (xTypes_lengthOf c v2) (fun r2 =>
  if (40 : Int32) ≤ (c 1 3) then (
    some (Sum.inr ((-3 : Int32), c)))
  else (
    if ((r1 + r2) + (3 : Int32)) ≤ (40 : Int32) then (
      gd (ix (c 1 3) 40) (lt (su c 2 ((c 1 3)).toNatClampNeg v1) (fun c3 =>
      gd (ix (c3 1 3) 40) (lt (su c3 3 ((c3 1 3)).toNatClampNeg v2) (fun c4 =>
      gd (ix (c4 1 3) 40) (lt (su c4 4 ((c4 1 3)).toNatClampNeg ((r1 + r2) + (3 : Int32))) (fun c5 =>
      lt (su c5 1 3 ((c5 1 3) + (1 : Int32))) (fun c6 =>
      some (Sum.inr (((c6 1 3) - (1 : Int32)), c6))))))))))
    else (
      some (Sum.inr ((-3 : Int32), c))))))
noncomputable def xTypes_arrowOf_S2 (v1 : Int32) (v2 : Int32) (v3 : Int32) (c : jS) : Option ((Int32 × Int32 × Int32 × jS) ⊕ (Int32 × jS)) :=
  if (c 1 3) ≤ v3 then (
    xTypes_arrowOf_P44_2 v1 v2 c)
  else (
    if (40 : Int32) ≤ v3 then (
      xTypes_arrowOf_P44_2 v1 v2 c)
    else (
      gd (ix v3 40) (
      if (c 2 (v3).toNatClampNeg) = v1 then (
        gd (ix v3 40) (
        if (c 3 (v3).toNatClampNeg) = v2 then (
          some (Sum.inr (v3, c)))
        else (
          some (Sum.inl (v1, v2, (v3 + (1 : Int32)), c)))))
      else (
        some (Sum.inl (v1, v2, (v3 + (1 : Int32)), c))))))
noncomputable def xTypes_arrowOf_L2 (v1 : Int32) (v2 : Int32) (v3 : Int32) (c : jS) : Option (Int32 × jS) :=
  lp (fun s : (Int32 × Int32 × Int32 × jS) => xTypes_arrowOf_S2 s.1 s.2.1 s.2.2.1 s.2.2.2) (v1, v2, v3, c)
noncomputable def xTypes_arrowOf (c : jS) (a1 : Int32) (a2 : Int32) : Option (Int32 × jS) :=
  xTypes_arrowOf_L2 a1 a2 (0 : Int32) c

noncomputable def b_xReader_typeHere (F_typeHere : jS → Int32 → Option (Int32 × jS)) (F_typeBehind : jS → Int32 → Int32 → Option (Int32 × jS)) (c : jS) (a1 : Int32) : Option (Int32 × jS) :=
  ob (xReader_byteHere c) (fun r1 =>
  ob (xReader_beginsType c r1) (fun r2 =>
  if r2 = 0 then (
    ob (xReader_wrongHere c) (fun r12 =>
    some (r12, c)))
  else (
    if a1 ≤ (40 : Int32) then (
      if r1 = (105 : Int32) then (
        lt (su c 28 4 ((c 28 4) + (1 : Int32))) (fun c11 =>
        some ((0 : Int32), c11)))
      else (
        bd (F_typeBehind c (40 : Int32) (a1 + (1 : Int32))) (fun r3 c4 =>
        if 0 ≤ r3 then (
          bd (F_typeBehind c4 (62 : Int32) (a1 + (1 : Int32))) (fun r5 c6 =>
          if 0 ≤ r5 then (
            bd (xReader_pass c6 (41 : Int32)) (fun r7 c8 =>
            if 0 ≤ r7 then (
              bd (xTypes_arrowOf c8 r3 r5) (fun r9 c10 =>
              some (r9, c10)))
            else (
              some (r7, c8))))
          else (
            some (r5, c6))))
        else (
          some (r3, c4)))))
    else (
      some ((-3 : Int32), c)))))

noncomputable def b_xReader_typeBehind (F_typeHere : jS → Int32 → Option (Int32 × jS)) (F_typeBehind : jS → Int32 → Int32 → Option (Int32 × jS)) (c : jS) (a1 : Int32) (a2 : Int32) : Option (Int32 × jS) :=
  bd (xReader_pass c a1) (fun r1 c2 =>
  if 0 ≤ r1 then (
    bd (F_typeHere c2 a2) (fun r3 c4 =>
    some (r3, c4)))
  else (
    some (r1, c2)))

noncomputable def g_xReader_typeHere : Nat → (jS → Int32 → Option (Int32 × jS)) × (jS → Int32 → Int32 → Option (Int32 × jS))
  | 0 => ((fun _ _ => none), (fun _ _ _ => none))
  | f + 1 => ((fun c a1 => b_xReader_typeHere (g_xReader_typeHere f).1 (g_xReader_typeHere f).2 c a1), (fun c a1 a2 => b_xReader_typeBehind (g_xReader_typeHere f).1 (g_xReader_typeHere f).2 c a1 a2))

noncomputable def xReader_typeHere (f : Nat) : jS → Int32 → Option (Int32 × jS) := (g_xReader_typeHere f).1

noncomputable def xReader_typeBehind (f : Nat) : jS → Int32 → Int32 → Option (Int32 × jS) := (g_xReader_typeHere f).2

theorem xReader_typeHere_s (f : Nat) : xReader_typeHere (f + 1) = b_xReader_typeHere (xReader_typeHere f) (xReader_typeBehind f) := rfl

theorem xReader_typeBehind_s (f : Nat) : xReader_typeBehind (f + 1) = b_xReader_typeBehind (xReader_typeHere f) (xReader_typeBehind f) := rfl

noncomputable def xTerms_newFunction (c : jS) (a1 : Int32) (a2 : Int32) (a3 : Int32) : Option (Int32 × jS) :=
  bd (xTerms_made c (2 : Int32) a1 a2 a3 (-2 : Int32) (-2 : Int32)) (fun r1 c2 =>
  some (r1, c2))

noncomputable def xTerms_newJoined (c : jS) (a1 : Int32) (a2 : Int32) (a3 : Int32) (a4 : Int32) : Option (Int32 × jS) :=
  bd (xTerms_made c a1 (-2 : Int32) (-2 : Int32) a2 a3 a4) (fun r1 c2 =>
  some (r1, c2))

noncomputable def xTerms_newLet (c : jS) (a1 : Int32) (a2 : Int32) (a3 : Int32) : Option (Int32 × jS) :=
  bd (xTerms_made c (4 : Int32) a1 (-2 : Int32) a2 a3 (-2 : Int32)) (fun r1 c2 =>
  some (r1, c2))

noncomputable def xReader_nameHere (c : jS) : Option (Int32 × jS) :=
  ob (xReader_byteHere c) (fun r1 =>
  lt (su c 28 4 ((c 28 4) + (1 : Int32))) (fun c2 =>
  bd (xTerms_newName c2 (r1 - (97 : Int32))) (fun r3 c4 =>
  some (r3, c4))))

noncomputable def xTerms_digitsOf_S17 (v1 : Int32) (v2 : Int32) (v3 : Int32) (c : jS) : Option ((Int32 × Int32 × Int32) ⊕ Int32) :=
  if (10 : Int32) ≤ v3 then (
    some (Sum.inr (v1)))
  else (
    if v2 = 0 then (
      some (Sum.inr (v1)))
    else (
      gd (nz32 (10 : Int32)) (
      some (Sum.inl ((v1 + (1 : Int32)), (v2 / (10 : Int32)), (v3 + (1 : Int32)))))))
noncomputable def xTerms_digitsOf_L17 (v1 : Int32) (v2 : Int32) (v3 : Int32) (c : jS) : Option Int32 :=
  lp (fun s : (Int32 × Int32 × Int32) => xTerms_digitsOf_S17 s.1 s.2.1 s.2.2 c) (v1, v2, v3)
noncomputable def xTerms_digitsOf (c : jS) (a0 : Int32) : Option Int32 :=
  if 0 ≤ a0 then (
    gd (nz32 (10 : Int32)) (
    xTerms_digitsOf_L17 (1 : Int32) (a0 / (10 : Int32)) (0 : Int32) c))
  else (
    gd (nz32 (10 : Int32)) (
    xTerms_digitsOf_L17 (2 : Int32) (a0 / (10 : Int32)) (0 : Int32) c))

noncomputable def xTerms_newNumber (c : jS) (a1 : Int32) : Option (Int32 × jS) :=
  bd (xTerms_made c (0 : Int32) (-2 : Int32) (-2 : Int32) (-2 : Int32) (-2 : Int32) (-2 : Int32)) (fun r1 c2 =>
  ob (xTerms_has c2 r1) (fun r3 =>
  if r3 = 0 then (
    some (r1, c2))
  else (
    gd (ix r1 400) (lt (su c2 7 (r1).toNatClampNeg a1) (fun c4 =>
    ob (xTerms_digitsOf c4 a1) (fun r5 =>
    gd (ix r1 400) (lt (su c4 16 (r1).toNatClampNeg r5) (fun c6 =>
    some (r1, c6)))))))))

noncomputable def xReader_numberHere_S77 (v1 : Int32) (v2 : Int64) (c : jS) : Option ((Int32 × Int64 × jS) ⊕ (Int32 × jS)) :=
  if (c 28 3) ≤ (c 28 4) then (
    bd (xTerms_newNumber c v2.toInt32) (fun r3 c4 =>
    some (Sum.inr (r3, c4))))
  else (
    ob (xReader_byteHere c) (fun r5 =>
    ob (xReader_isDigit c r5) (fun r6 =>
    if r6 = 0 then (
      bd (xTerms_newNumber c v2.toInt32) (fun r7 c8 =>
      some (Sum.inr (r7, c8))))
    else (
      ob (xReader_byteHere c) (fun r9 =>
      if (lg_cmp ((v2 * (10 : Int64)) + (v1 * (r9 - (48 : Int32))).toInt64) ((v2 * (10 : Int64)) + (v1 * (r9 - (48 : Int32))).toInt64).toInt32.toInt64) = 0 then (
        lt (su c 28 4 ((c 28 4) + (1 : Int32))) (fun c10 =>
        some (Sum.inl (v1, ((v2 * (10 : Int64)) + (v1 * (r9 - (48 : Int32))).toInt64), c10))))
      else (
        ob (xReader_wrongHere c) (fun r11 =>
        some (Sum.inr (r11, c)))))))))
noncomputable def xReader_numberHere_L77 (v1 : Int32) (v2 : Int64) (c : jS) : Option (Int32 × jS) :=
  lp (fun s : (Int32 × Int64 × jS) => xReader_numberHere_S77 s.1 s.2.1 s.2.2) (v1, v2, c)
noncomputable def xReader_numberHere_P47 (v1 : Int32) (c : jS) : Option (Int32 × jS) :=
  ob (xReader_byteHere c) (fun r2 =>
  if r2 = (48 : Int32) then (
    lt (su c 28 4 ((c 28 4) + (1 : Int32))) (fun c12 =>
    bd (xTerms_newNumber c12 (0 : Int32)) (fun r13 c14 =>
    some (r13, c14))))
  else (
    xReader_numberHere_L77 v1 (0 : Int64) c))
noncomputable def xReader_numberHere (c : jS) : Option (Int32 × jS) :=
  ob (xReader_byteHere c) (fun r1 =>
  if r1 = (45 : Int32) then (
    lt (su c 28 4 ((c 28 4) + (1 : Int32))) (fun c15 =>
    ob (xReader_byteHere c15) (fun r16 =>
    ob (xReader_isDigit c15 r16) (fun r17 =>
    if r17 = 0 then (
      ob (xReader_wrongHere c15) (fun r18 =>
      some (r18, c15)))
    else (
      ob (xReader_byteHere c15) (fun r19 =>
      if r19 = (48 : Int32) then (
        ob (xReader_wrongHere c15) (fun r20 =>
        some (r20, c15)))
      else (
        xReader_numberHere_P47 (-1 : Int32) c15)))))))
  else (
    xReader_numberHere_P47 (1 : Int32) c))

noncomputable def b_xReader_termHere (F_termHere : jS → Int32 → Option (Int32 × jS)) (F_functionHere : jS → Int32 → Option (Int32 × jS)) (F_termBehind : jS → Int32 → Int32 → Option (Int32 × jS)) (F_pairHere : jS → Int32 → Option (Int32 × jS)) (F_letHere : jS → Int32 → Option (Int32 × jS)) (F_choiceHere : jS → Int32 → Option (Int32 × jS)) (c : jS) (a1 : Int32) : Option (Int32 × jS) :=
  ob (xReader_byteHere c) (fun r1 =>
  ob (xReader_beginsTerm c r1) (fun r2 =>
  if r2 = 0 then (
    ob (xReader_wrongHere c) (fun r16 =>
    some (r16, c)))
  else (
    if a1 ≤ (40 : Int32) then (
      if r1 = 40 then (
        bd (F_pairHere c a1) (fun r3 c4 =>
        some (r3, c4)))
      else (
      if r1 = 91 then (
        bd (F_letHere c a1) (fun r5 c6 =>
        some (r5, c6)))
      else (
      if r1 = 92 then (
        bd (F_functionHere c a1) (fun r7 c8 =>
        some (r7, c8)))
      else (
      if r1 = 123 then (
        bd (F_choiceHere c a1) (fun r9 c10 =>
        some (r9, c10)))
      else (
      ob (xc_isLetter c (r1 - (97 : Int32))) (fun r11 =>
      if r11 = 0 then (
        bd (xReader_numberHere c) (fun r12 c13 =>
        some (r12, c13)))
      else (
        bd (xReader_nameHere c) (fun r14 c15 =>
        some (r14, c15)))))))))
    else (
      some ((-3 : Int32), c)))))

noncomputable def b_xReader_functionHere (F_termHere : jS → Int32 → Option (Int32 × jS)) (F_functionHere : jS → Int32 → Option (Int32 × jS)) (F_termBehind : jS → Int32 → Int32 → Option (Int32 × jS)) (F_pairHere : jS → Int32 → Option (Int32 × jS)) (F_letHere : jS → Int32 → Option (Int32 × jS)) (F_choiceHere : jS → Int32 → Option (Int32 × jS)) (c : jS) (a1 : Int32) : Option (Int32 × jS) :=
  bd (xReader_letterBehind c (92 : Int32)) (fun r1 c2 =>
  if 0 ≤ r1 then (
    bd (xReader_pass c2 (58 : Int32)) (fun r3 c4 =>
    if 0 ≤ r3 then (
      bd (xReader_typeHere 130 c4 (a1 + (1 : Int32))) (fun r5 c6 =>
      if 0 ≤ r5 then (
        bd (F_termBehind c6 (46 : Int32) (a1 + (1 : Int32))) (fun r7 c8 =>
        if 0 ≤ r7 then (
          bd (xTerms_newFunction c8 r1 r5 r7) (fun r9 c10 =>
          some (r9, c10)))
        else (
          some (r7, c8))))
      else (
        some (r5, c6))))
    else (
      some (r3, c4))))
  else (
    some (r1, c2)))

noncomputable def b_xReader_termBehind (F_termHere : jS → Int32 → Option (Int32 × jS)) (F_functionHere : jS → Int32 → Option (Int32 × jS)) (F_termBehind : jS → Int32 → Int32 → Option (Int32 × jS)) (F_pairHere : jS → Int32 → Option (Int32 × jS)) (F_letHere : jS → Int32 → Option (Int32 × jS)) (F_choiceHere : jS → Int32 → Option (Int32 × jS)) (c : jS) (a1 : Int32) (a2 : Int32) : Option (Int32 × jS) :=
  bd (xReader_pass c a1) (fun r1 c2 =>
  if 0 ≤ r1 then (
    bd (F_termHere c2 a2) (fun r3 c4 =>
    some (r3, c4)))
  else (
    some (r1, c2)))

noncomputable def xReader_pairHere_P38 (F_termHere : jS → Int32 → Option (Int32 × jS)) (F_functionHere : jS → Int32 → Option (Int32 × jS)) (F_termBehind : jS → Int32 → Int32 → Option (Int32 × jS)) (F_pairHere : jS → Int32 → Option (Int32 × jS)) (F_letHere : jS → Int32 → Option (Int32 × jS)) (F_choiceHere : jS → Int32 → Option (Int32 × jS)) (v1 : Int32) (v2 : Int32) (v3 : Int32) (c : jS) : Option (Int32 × jS) :=
  bd (F_termBehind c v3 (v1 + (1 : Int32))) (fun r4 c5 =>
  if 0 ≤ r4 then (
    bd (xReader_pass c5 (41 : Int32)) (fun r6 c7 =>
    if 0 ≤ r6 then (
      if v3 = (32 : Int32) then (
        bd (xTerms_newJoined c7 (3 : Int32) v2 r4 (-2 : Int32)) (fun r10 c11 =>
        some (r10, c11)))
      else (
        bd (xTerms_newJoined c7 (5 : Int32) v2 r4 (-2 : Int32)) (fun r8 c9 =>
        some (r8, c9))))
    else (
      some (r6, c7))))
  else (
    some (r4, c5)))
noncomputable def b_xReader_pairHere (F_termHere : jS → Int32 → Option (Int32 × jS)) (F_functionHere : jS → Int32 → Option (Int32 × jS)) (F_termBehind : jS → Int32 → Int32 → Option (Int32 × jS)) (F_pairHere : jS → Int32 → Option (Int32 × jS)) (F_letHere : jS → Int32 → Option (Int32 × jS)) (F_choiceHere : jS → Int32 → Option (Int32 × jS)) (c : jS) (a1 : Int32) : Option (Int32 × jS) :=
  bd (F_termBehind c (40 : Int32) (a1 + (1 : Int32))) (fun r1 c2 =>
  if 0 ≤ r1 then (
    ob (xReader_byteHere c2) (fun r3 =>
    if r3 = (32 : Int32) then (
      xReader_pairHere_P38 F_termHere F_functionHere F_termBehind F_pairHere F_letHere F_choiceHere a1 r1 r3 c2)
    else (
      if r3 = (43 : Int32) then (
        xReader_pairHere_P38 F_termHere F_functionHere F_termBehind F_pairHere F_letHere F_choiceHere a1 r1 r3 c2)
      else (
        ob (xReader_wrongHere c2) (fun r12 =>
        some (r12, c2))))))
  else (
    some (r1, c2)))

noncomputable def b_xReader_letHere (F_termHere : jS → Int32 → Option (Int32 × jS)) (F_functionHere : jS → Int32 → Option (Int32 × jS)) (F_termBehind : jS → Int32 → Int32 → Option (Int32 × jS)) (F_pairHere : jS → Int32 → Option (Int32 × jS)) (F_letHere : jS → Int32 → Option (Int32 × jS)) (F_choiceHere : jS → Int32 → Option (Int32 × jS)) (c : jS) (a1 : Int32) : Option (Int32 × jS) :=
  bd (xReader_letterBehind c (91 : Int32)) (fun r1 c2 =>
  if 0 ≤ r1 then (
    bd (F_termBehind c2 (61 : Int32) (a1 + (1 : Int32))) (fun r3 c4 =>
    if 0 ≤ r3 then (
      bd (F_termBehind c4 (93 : Int32) (a1 + (1 : Int32))) (fun r5 c6 =>
      if 0 ≤ r5 then (
        bd (xTerms_newLet c6 r1 r3 r5) (fun r7 c8 =>
        some (r7, c8)))
      else (
        some (r5, c6))))
    else (
      some (r3, c4))))
  else (
    some (r1, c2)))

noncomputable def b_xReader_choiceHere (F_termHere : jS → Int32 → Option (Int32 × jS)) (F_functionHere : jS → Int32 → Option (Int32 × jS)) (F_termBehind : jS → Int32 → Int32 → Option (Int32 × jS)) (F_pairHere : jS → Int32 → Option (Int32 × jS)) (F_letHere : jS → Int32 → Option (Int32 × jS)) (F_choiceHere : jS → Int32 → Option (Int32 × jS)) (c : jS) (a1 : Int32) : Option (Int32 × jS) :=
  bd (F_termBehind c (123 : Int32) (a1 + (1 : Int32))) (fun r1 c2 =>
  if 0 ≤ r1 then (
    bd (F_termBehind c2 (63 : Int32) (a1 + (1 : Int32))) (fun r3 c4 =>
    if 0 ≤ r3 then (
      bd (F_termBehind c4 (58 : Int32) (a1 + (1 : Int32))) (fun r5 c6 =>
      if 0 ≤ r5 then (
        bd (xReader_pass c6 (125 : Int32)) (fun r7 c8 =>
        if 0 ≤ r7 then (
          bd (xTerms_newJoined c8 (6 : Int32) r1 r3 r5) (fun r9 c10 =>
          some (r9, c10)))
        else (
          some (r7, c8))))
      else (
        some (r5, c6))))
    else (
      some (r3, c4))))
  else (
    some (r1, c2)))

noncomputable def g_xReader_termHere : Nat → (jS → Int32 → Option (Int32 × jS)) × (jS → Int32 → Option (Int32 × jS)) × (jS → Int32 → Int32 → Option (Int32 × jS)) × (jS → Int32 → Option (Int32 × jS)) × (jS → Int32 → Option (Int32 × jS)) × (jS → Int32 → Option (Int32 × jS))
  | 0 => ((fun _ _ => none), (fun _ _ => none), (fun _ _ _ => none), (fun _ _ => none), (fun _ _ => none), (fun _ _ => none))
  | f + 1 => ((fun c a1 => b_xReader_termHere (g_xReader_termHere f).1 (g_xReader_termHere f).2.1 (g_xReader_termHere f).2.2.1 (g_xReader_termHere f).2.2.2.1 (g_xReader_termHere f).2.2.2.2.1 (g_xReader_termHere f).2.2.2.2.2 c a1), (fun c a1 => b_xReader_functionHere (g_xReader_termHere f).1 (g_xReader_termHere f).2.1 (g_xReader_termHere f).2.2.1 (g_xReader_termHere f).2.2.2.1 (g_xReader_termHere f).2.2.2.2.1 (g_xReader_termHere f).2.2.2.2.2 c a1), (fun c a1 a2 => b_xReader_termBehind (g_xReader_termHere f).1 (g_xReader_termHere f).2.1 (g_xReader_termHere f).2.2.1 (g_xReader_termHere f).2.2.2.1 (g_xReader_termHere f).2.2.2.2.1 (g_xReader_termHere f).2.2.2.2.2 c a1 a2), (fun c a1 => b_xReader_pairHere (g_xReader_termHere f).1 (g_xReader_termHere f).2.1 (g_xReader_termHere f).2.2.1 (g_xReader_termHere f).2.2.2.1 (g_xReader_termHere f).2.2.2.2.1 (g_xReader_termHere f).2.2.2.2.2 c a1), (fun c a1 => b_xReader_letHere (g_xReader_termHere f).1 (g_xReader_termHere f).2.1 (g_xReader_termHere f).2.2.1 (g_xReader_termHere f).2.2.2.1 (g_xReader_termHere f).2.2.2.2.1 (g_xReader_termHere f).2.2.2.2.2 c a1), (fun c a1 => b_xReader_choiceHere (g_xReader_termHere f).1 (g_xReader_termHere f).2.1 (g_xReader_termHere f).2.2.1 (g_xReader_termHere f).2.2.2.1 (g_xReader_termHere f).2.2.2.2.1 (g_xReader_termHere f).2.2.2.2.2 c a1))

noncomputable def xReader_termHere (f : Nat) : jS → Int32 → Option (Int32 × jS) := (g_xReader_termHere f).1

noncomputable def xReader_functionHere (f : Nat) : jS → Int32 → Option (Int32 × jS) := (g_xReader_termHere f).2.1

noncomputable def xReader_termBehind (f : Nat) : jS → Int32 → Int32 → Option (Int32 × jS) := (g_xReader_termHere f).2.2.1

noncomputable def xReader_pairHere (f : Nat) : jS → Int32 → Option (Int32 × jS) := (g_xReader_termHere f).2.2.2.1

noncomputable def xReader_letHere (f : Nat) : jS → Int32 → Option (Int32 × jS) := (g_xReader_termHere f).2.2.2.2.1

noncomputable def xReader_choiceHere (f : Nat) : jS → Int32 → Option (Int32 × jS) := (g_xReader_termHere f).2.2.2.2.2

theorem xReader_termHere_s (f : Nat) : xReader_termHere (f + 1) = b_xReader_termHere (xReader_termHere f) (xReader_functionHere f) (xReader_termBehind f) (xReader_pairHere f) (xReader_letHere f) (xReader_choiceHere f) := rfl

theorem xReader_functionHere_s (f : Nat) : xReader_functionHere (f + 1) = b_xReader_functionHere (xReader_termHere f) (xReader_functionHere f) (xReader_termBehind f) (xReader_pairHere f) (xReader_letHere f) (xReader_choiceHere f) := rfl

theorem xReader_termBehind_s (f : Nat) : xReader_termBehind (f + 1) = b_xReader_termBehind (xReader_termHere f) (xReader_functionHere f) (xReader_termBehind f) (xReader_pairHere f) (xReader_letHere f) (xReader_choiceHere f) := rfl

theorem xReader_pairHere_s (f : Nat) : xReader_pairHere (f + 1) = b_xReader_pairHere (xReader_termHere f) (xReader_functionHere f) (xReader_termBehind f) (xReader_pairHere f) (xReader_letHere f) (xReader_choiceHere f) := rfl

theorem xReader_letHere_s (f : Nat) : xReader_letHere (f + 1) = b_xReader_letHere (xReader_termHere f) (xReader_functionHere f) (xReader_termBehind f) (xReader_pairHere f) (xReader_letHere f) (xReader_choiceHere f) := rfl

theorem xReader_choiceHere_s (f : Nat) : xReader_choiceHere (f + 1) = b_xReader_choiceHere (xReader_termHere f) (xReader_functionHere f) (xReader_termBehind f) (xReader_pairHere f) (xReader_letHere f) (xReader_choiceHere f) := rfl

noncomputable def xTerms_cutTo (c : jS) (a1 : Int32) : Option (Unit × jS) :=
  if a1 < 0 then (
    some ((), c))
  else (
    if (c 5 12) ≤ a1 then (
      some ((), c))
    else (
      lt (su c 5 12 a1) (fun c1 =>
      some ((), c1))))

noncomputable def xTypes_cutTo (c : jS) (a1 : Int32) : Option (Unit × jS) :=
  if a1 < (1 : Int32) then (
    some ((), c))
  else (
    if (c 1 3) ≤ a1 then (
      some ((), c))
    else (
      lt (su c 1 3 a1) (fun c1 =>
      some ((), c1))))

noncomputable def xReader_wholeTape_P47 (v1 : Int32) (v2 : Int32) (v3 : Int32) (c : jS) : Option (Int32 × jS) :=
  if 0 ≤ v3 then (
    lt (su c 28 3 (0 : Int32)) (fun c6 =>
    some (v3, c6)))
  else (
    bd (xTerms_cutTo c v1) (fun _ c7 =>
    bd (xTypes_cutTo c7 v2) (fun _ c8 =>
    lt (su c8 28 3 (0 : Int32)) (fun c9 =>
    some (v3, c9)))))
noncomputable def xReader_wholeTape (c : jS) : Option (Int32 × jS) :=
  ob (xTerms_total c) (fun r1 =>
  ob (xTypes_total c) (fun r2 =>
  lt (su c 28 4 (0 : Int32)) (fun c3 =>
  bd (xReader_termHere 130 c3 (1 : Int32)) (fun r4 c5 =>
  if r4 < 0 then (
    xReader_wholeTape_P47 r1 r2 r4 c5)
  else (
    if (c5 28 3) ≤ (c5 28 4) then (
      xReader_wholeTape_P47 r1 r2 r4 c5)
    else (
      ob (xReader_wrongHere c5) (fun r10 =>
      xReader_wholeTape_P47 r1 r2 r10 c5)))))))

noncomputable def b_xStepper_stepOf (F_stepOf : jS → Int32 → Option (Int32 × jS)) (F_stepOfCall : jS → Int32 → Option (Int32 × jS)) (F_stepOfFirst : jS → Int32 → Option (Int32 × jS)) (F_stepOfSum : jS → Int32 → Option (Int32 × jS)) (F_stepOfChoice : jS → Int32 → Option (Int32 × jS)) (c : jS) (a1 : Int32) : Option (Int32 × jS) :=
  ob (xTerms_kindOf c a1) (fun r1 =>
  if r1 = 3 then (
    bd (F_stepOfCall c a1) (fun r2 c3 =>
    some (r2, c3)))
  else (
  if r1 = 4 then (
    ob (xTerms_secondOf c a1) (fun r4 =>
    ob (xTerms_letterOf c a1) (fun r5 =>
    ob (xTerms_firstOf c a1) (fun r6 =>
    bd (xPutter_into 130 c r4 r5 r6) (fun r7 c8 =>
    some (r7, c8))))))
  else (
  if r1 = 5 then (
    bd (F_stepOfSum c a1) (fun r9 c10 =>
    some (r9, c10)))
  else (
  if r1 = 6 then (
    bd (F_stepOfChoice c a1) (fun r11 c12 =>
    some (r11, c12)))
  else (
  some ((-2 : Int32), c))))))

noncomputable def b_xStepper_stepOfCall (F_stepOf : jS → Int32 → Option (Int32 × jS)) (F_stepOfCall : jS → Int32 → Option (Int32 × jS)) (F_stepOfFirst : jS → Int32 → Option (Int32 × jS)) (F_stepOfSum : jS → Int32 → Option (Int32 × jS)) (F_stepOfChoice : jS → Int32 → Option (Int32 × jS)) (c : jS) (a1 : Int32) : Option (Int32 × jS) :=
  ob (xTerms_firstOf c a1) (fun r1 =>
  ob (xTerms_kindOf c r1) (fun r2 =>
  if r2 = (2 : Int32) then (
    ob (xTerms_firstOf c r1) (fun r5 =>
    ob (xTerms_letterOf c r1) (fun r6 =>
    ob (xTerms_secondOf c a1) (fun r7 =>
    bd (xPutter_into 130 c r5 r6 r7) (fun r8 c9 =>
    some (r8, c9))))))
  else (
    bd (F_stepOfFirst c a1) (fun r3 c4 =>
    some (r3, c4)))))

noncomputable def b_xStepper_stepOfFirst (F_stepOf : jS → Int32 → Option (Int32 × jS)) (F_stepOfCall : jS → Int32 → Option (Int32 × jS)) (F_stepOfFirst : jS → Int32 → Option (Int32 × jS)) (F_stepOfSum : jS → Int32 → Option (Int32 × jS)) (F_stepOfChoice : jS → Int32 → Option (Int32 × jS)) (c : jS) (a1 : Int32) : Option (Int32 × jS) :=
  ob (xTerms_firstOf c a1) (fun r1 =>
  bd (F_stepOf c r1) (fun r2 c3 =>
  if 0 ≤ r2 then (
    ob (xTerms_secondOf c3 a1) (fun r4 =>
    ob (xTerms_thirdOf c3 a1) (fun r5 =>
    bd (xTerms_withParts c3 a1 (-2 : Int32) r2 r4 r5) (fun r6 c7 =>
    some (r6, c7)))))
  else (
    some (r2, c3))))

noncomputable def b_xStepper_stepOfSum (F_stepOf : jS → Int32 → Option (Int32 × jS)) (F_stepOfCall : jS → Int32 → Option (Int32 × jS)) (F_stepOfFirst : jS → Int32 → Option (Int32 × jS)) (F_stepOfSum : jS → Int32 → Option (Int32 × jS)) (F_stepOfChoice : jS → Int32 → Option (Int32 × jS)) (c : jS) (a1 : Int32) : Option (Int32 × jS) :=
  ob (xTerms_firstOf c a1) (fun r1 =>
  ob (xTerms_secondOf c a1) (fun r2 =>
  ob (xTerms_kindOf c r1) (fun r3 =>
  if r3 = 0 then (
    ob (xTerms_kindOf c r2) (fun r4 =>
    if r4 = 0 then (
      ob (xTerms_numberOf c r1) (fun r9 =>
      ob (xTerms_numberOf c r2) (fun r10 =>
      bd (xTerms_newNumber c (r9 + r10)) (fun r11 c12 =>
      some (r11, c12)))))
    else (
      bd (F_stepOf c r2) (fun r5 c6 =>
      if 0 ≤ r5 then (
        bd (xTerms_withParts c6 a1 (-2 : Int32) r1 r5 (-2 : Int32)) (fun r7 c8 =>
        some (r7, c8)))
      else (
        some (r5, c6))))))
  else (
    bd (F_stepOfFirst c a1) (fun r13 c14 =>
    some (r13, c14))))))

noncomputable def b_xStepper_stepOfChoice (F_stepOf : jS → Int32 → Option (Int32 × jS)) (F_stepOfCall : jS → Int32 → Option (Int32 × jS)) (F_stepOfFirst : jS → Int32 → Option (Int32 × jS)) (F_stepOfSum : jS → Int32 → Option (Int32 × jS)) (F_stepOfChoice : jS → Int32 → Option (Int32 × jS)) (c : jS) (a1 : Int32) : Option (Int32 × jS) :=
  ob (xTerms_firstOf c a1) (fun r1 =>
  ob (xTerms_kindOf c r1) (fun r2 =>
  if r2 = 0 then (
    ob (xTerms_numberOf c r1) (fun r3 =>
    if r3 = 0 then (
      ob (xTerms_thirdOf c a1) (fun r4 =>
      some (r4, c)))
    else (
      ob (xTerms_secondOf c a1) (fun r5 =>
      some (r5, c)))))
  else (
    bd (F_stepOfFirst c a1) (fun r6 c7 =>
    some (r6, c7)))))

noncomputable def g_xStepper_stepOf : Nat → (jS → Int32 → Option (Int32 × jS)) × (jS → Int32 → Option (Int32 × jS)) × (jS → Int32 → Option (Int32 × jS)) × (jS → Int32 → Option (Int32 × jS)) × (jS → Int32 → Option (Int32 × jS))
  | 0 => ((fun _ _ => none), (fun _ _ => none), (fun _ _ => none), (fun _ _ => none), (fun _ _ => none))
  | f + 1 => ((fun c a1 => b_xStepper_stepOf (g_xStepper_stepOf f).1 (g_xStepper_stepOf f).2.1 (g_xStepper_stepOf f).2.2.1 (g_xStepper_stepOf f).2.2.2.1 (g_xStepper_stepOf f).2.2.2.2 c a1), (fun c a1 => b_xStepper_stepOfCall (g_xStepper_stepOf f).1 (g_xStepper_stepOf f).2.1 (g_xStepper_stepOf f).2.2.1 (g_xStepper_stepOf f).2.2.2.1 (g_xStepper_stepOf f).2.2.2.2 c a1), (fun c a1 => b_xStepper_stepOfFirst (g_xStepper_stepOf f).1 (g_xStepper_stepOf f).2.1 (g_xStepper_stepOf f).2.2.1 (g_xStepper_stepOf f).2.2.2.1 (g_xStepper_stepOf f).2.2.2.2 c a1), (fun c a1 => b_xStepper_stepOfSum (g_xStepper_stepOf f).1 (g_xStepper_stepOf f).2.1 (g_xStepper_stepOf f).2.2.1 (g_xStepper_stepOf f).2.2.2.1 (g_xStepper_stepOf f).2.2.2.2 c a1), (fun c a1 => b_xStepper_stepOfChoice (g_xStepper_stepOf f).1 (g_xStepper_stepOf f).2.1 (g_xStepper_stepOf f).2.2.1 (g_xStepper_stepOf f).2.2.2.1 (g_xStepper_stepOf f).2.2.2.2 c a1))

noncomputable def xStepper_stepOf (f : Nat) : jS → Int32 → Option (Int32 × jS) := (g_xStepper_stepOf f).1

noncomputable def xStepper_stepOfCall (f : Nat) : jS → Int32 → Option (Int32 × jS) := (g_xStepper_stepOf f).2.1

noncomputable def xStepper_stepOfFirst (f : Nat) : jS → Int32 → Option (Int32 × jS) := (g_xStepper_stepOf f).2.2.1

noncomputable def xStepper_stepOfSum (f : Nat) : jS → Int32 → Option (Int32 × jS) := (g_xStepper_stepOf f).2.2.2.1

noncomputable def xStepper_stepOfChoice (f : Nat) : jS → Int32 → Option (Int32 × jS) := (g_xStepper_stepOf f).2.2.2.2

theorem xStepper_stepOf_s (f : Nat) : xStepper_stepOf (f + 1) = b_xStepper_stepOf (xStepper_stepOf f) (xStepper_stepOfCall f) (xStepper_stepOfFirst f) (xStepper_stepOfSum f) (xStepper_stepOfChoice f) := rfl

theorem xStepper_stepOfCall_s (f : Nat) : xStepper_stepOfCall (f + 1) = b_xStepper_stepOfCall (xStepper_stepOf f) (xStepper_stepOfCall f) (xStepper_stepOfFirst f) (xStepper_stepOfSum f) (xStepper_stepOfChoice f) := rfl

theorem xStepper_stepOfFirst_s (f : Nat) : xStepper_stepOfFirst (f + 1) = b_xStepper_stepOfFirst (xStepper_stepOf f) (xStepper_stepOfCall f) (xStepper_stepOfFirst f) (xStepper_stepOfSum f) (xStepper_stepOfChoice f) := rfl

theorem xStepper_stepOfSum_s (f : Nat) : xStepper_stepOfSum (f + 1) = b_xStepper_stepOfSum (xStepper_stepOf f) (xStepper_stepOfCall f) (xStepper_stepOfFirst f) (xStepper_stepOfSum f) (xStepper_stepOfChoice f) := rfl

theorem xStepper_stepOfChoice_s (f : Nat) : xStepper_stepOfChoice (f + 1) = b_xStepper_stepOfChoice (xStepper_stepOf f) (xStepper_stepOfCall f) (xStepper_stepOfFirst f) (xStepper_stepOfSum f) (xStepper_stepOfChoice f) := rfl

noncomputable def xTerms_usesOf_P51 (F_usesOf : jS → Int32 → Int32 → Option Int32) (v1 : Int32) (v2 : Int32) (c : jS) : Option Int32 :=
  ob (xTerms_firstOf c v1) (fun r4 =>
  ob (F_usesOf c r4 v2) (fun r5 =>
  ob (xTerms_secondOf c v1) (fun r6 =>
  ob (F_usesOf c r6 v2) (fun r7 =>
  ob (xTerms_thirdOf c v1) (fun r8 =>
  ob (F_usesOf c r8 v2) (fun r9 =>
  some ((r5 + r7) + r9)))))))
noncomputable def b_xTerms_usesOf (F_usesOf : jS → Int32 → Int32 → Option Int32) (c : jS) (a1 : Int32) (a2 : Int32) : Option Int32 :=
  ob (xTerms_isFree c a1 a2) (fun r1 =>
  if r1 = 0 then (
    some (0 : Int32))
  else (
    ob (xTerms_kindOf c a1) (fun r2 =>
    if r2 = (1 : Int32) then (
      some (1 : Int32))
    else (
      ob (xTerms_kindOf c a1) (fun r3 =>
      if r3 = (4 : Int32) then (
        ob (xTerms_letterOf c a1) (fun r10 =>
        if r10 = a2 then (
          ob (xTerms_firstOf c a1) (fun r11 =>
          ob (F_usesOf c r11 a2) (fun r12 =>
          some (r12))))
        else (
          xTerms_usesOf_P51 F_usesOf a1 a2 c)))
      else (
        xTerms_usesOf_P51 F_usesOf a1 a2 c))))))

noncomputable def g_xTerms_usesOf : Nat → (jS → Int32 → Int32 → Option Int32)
  | 0 => (fun _ _ _ => none)
  | f + 1 => (fun c a1 a2 => b_xTerms_usesOf (g_xTerms_usesOf f) c a1 a2)

noncomputable def xTerms_usesOf (f : Nat) : jS → Int32 → Int32 → Option Int32 := (g_xTerms_usesOf f)

theorem xTerms_usesOf_s (f : Nat) : xTerms_usesOf (f + 1) = b_xTerms_usesOf (xTerms_usesOf f) := rfl

noncomputable def xTypist_setDeclared (c : jS) (a1 : Int32) (a2 : Int32) : Option (Unit × jS) :=
  ob (xc_isLetter c a1) (fun r1 =>
  if r1 = 0 then (
    some ((), c))
  else (
    gd (ix a1 26) (lt (su c 18 (a1).toNatClampNeg a2) (fun c2 =>
    some ((), c2)))))

noncomputable def xTypist_latestFault (c : jS) : Option Int32 :=
  some (c 17 4)

noncomputable def xTypist_latestFaultAt (c : jS) : Option Int32 :=
  some (c 17 5)

noncomputable def xTypist_knownOf (c : jS) (a1 : Int32) : Option Int32 :=
  ob (xc_isLetter c a1) (fun r1 =>
  if r1 = 0 then (
    some (-2 : Int32))
  else (
    gd (ix a1 26) (
    some (c 19 (a1).toNatClampNeg))))

noncomputable def xTypist_faulty (c : jS) (a1 : Int32) (a2 : Int32) : Option (Int32 × jS) :=
  lt (su c 17 4 a1) (fun c1 =>
  lt (su c1 17 5 a2) (fun c2 =>
  some ((-2 : Int32), c2)))

noncomputable def xTypist_typeForName (c : jS) (a1 : Int32) : Option (Int32 × jS) :=
  ob (xTerms_letterOf c a1) (fun r1 =>
  ob (xTypist_knownOf c r1) (fun r2 =>
  if 0 ≤ r2 then (
    some (r2, c))
  else (
    bd (xTypist_faulty c (1 : Int32) a1) (fun r3 c4 =>
    some (r3, c4)))))

noncomputable def xTypist_setKnown (c : jS) (a1 : Int32) (a2 : Int32) : Option (Unit × jS) :=
  ob (xc_isLetter c a1) (fun r1 =>
  if r1 = 0 then (
    some ((), c))
  else (
    gd (ix a1 26) (lt (su c 19 (a1).toNatClampNeg a2) (fun c2 =>
    some ((), c2)))))

noncomputable def b_xTypist_typeFor (F_typeFor : jS → Int32 → Option (Int32 × jS)) (F_typeForFunction : jS → Int32 → Option (Int32 × jS)) (F_typeUnder : jS → Int32 → Int32 → Int32 → Option (Int32 × jS)) (F_typeForCall : jS → Int32 → Option (Int32 × jS)) (F_typeThatIs : jS → Int32 → Int32 → Option (Int32 × jS)) (F_typeForLet : jS → Int32 → Option (Int32 × jS)) (F_typeForSum : jS → Int32 → Option (Int32 × jS)) (F_typeForChoice : jS → Int32 → Option (Int32 × jS)) (c : jS) (a1 : Int32) : Option (Int32 × jS) :=
  ob (xTerms_kindOf c a1) (fun r1 =>
  if r1 = 0 then (
    some ((0 : Int32), c))
  else (
  if r1 = 1 then (
    bd (xTypist_typeForName c a1) (fun r2 c3 =>
    some (r2, c3)))
  else (
  if r1 = 2 then (
    bd (F_typeForFunction c a1) (fun r4 c5 =>
    some (r4, c5)))
  else (
  if r1 = 3 then (
    bd (F_typeForCall c a1) (fun r6 c7 =>
    some (r6, c7)))
  else (
  if r1 = 4 then (
    bd (F_typeForLet c a1) (fun r8 c9 =>
    some (r8, c9)))
  else (
  if r1 = 5 then (
    bd (F_typeForSum c a1) (fun r10 c11 =>
    some (r10, c11)))
  else (
  if r1 = 6 then (
    bd (F_typeForChoice c a1) (fun r12 c13 =>
    some (r12, c13)))
  else (
  some ((-2 : Int32), c)))))))))

noncomputable def b_xTypist_typeForFunction (F_typeFor : jS → Int32 → Option (Int32 × jS)) (F_typeForFunction : jS → Int32 → Option (Int32 × jS)) (F_typeUnder : jS → Int32 → Int32 → Int32 → Option (Int32 × jS)) (F_typeForCall : jS → Int32 → Option (Int32 × jS)) (F_typeThatIs : jS → Int32 → Int32 → Option (Int32 × jS)) (F_typeForLet : jS → Int32 → Option (Int32 × jS)) (F_typeForSum : jS → Int32 → Option (Int32 × jS)) (F_typeForChoice : jS → Int32 → Option (Int32 × jS)) (c : jS) (a1 : Int32) : Option (Int32 × jS) :=
  ob (xTerms_typeOf c a1) (fun r1 =>
  ob (xTerms_letterOf c a1) (fun r2 =>
  ob (xTerms_firstOf c a1) (fun r3 =>
  bd (F_typeUnder c r2 r1 r3) (fun r4 c5 =>
  if 0 ≤ r4 then (
    bd (xTypes_arrowOf c5 r1 r4) (fun r6 c7 =>
    some (r6, c7)))
  else (
    some (r4, c5))))))

noncomputable def b_xTypist_typeUnder (F_typeFor : jS → Int32 → Option (Int32 × jS)) (F_typeForFunction : jS → Int32 → Option (Int32 × jS)) (F_typeUnder : jS → Int32 → Int32 → Int32 → Option (Int32 × jS)) (F_typeForCall : jS → Int32 → Option (Int32 × jS)) (F_typeThatIs : jS → Int32 → Int32 → Option (Int32 × jS)) (F_typeForLet : jS → Int32 → Option (Int32 × jS)) (F_typeForSum : jS → Int32 → Option (Int32 × jS)) (F_typeForChoice : jS → Int32 → Option (Int32 × jS)) (c : jS) (a1 : Int32) (a2 : Int32) (a3 : Int32) : Option (Int32 × jS) :=
  ob (xTypist_knownOf c a1) (fun r1 =>
  bd (xTypist_setKnown c a1 a2) (fun _ c2 =>
  bd (F_typeFor c2 a3) (fun r3 c4 =>
  bd (xTypist_setKnown c4 a1 r1) (fun _ c5 =>
  some (r3, c5)))))

noncomputable def b_xTypist_typeForCall (F_typeFor : jS → Int32 → Option (Int32 × jS)) (F_typeForFunction : jS → Int32 → Option (Int32 × jS)) (F_typeUnder : jS → Int32 → Int32 → Int32 → Option (Int32 × jS)) (F_typeForCall : jS → Int32 → Option (Int32 × jS)) (F_typeThatIs : jS → Int32 → Int32 → Option (Int32 × jS)) (F_typeForLet : jS → Int32 → Option (Int32 × jS)) (F_typeForSum : jS → Int32 → Option (Int32 × jS)) (F_typeForChoice : jS → Int32 → Option (Int32 × jS)) (c : jS) (a1 : Int32) : Option (Int32 × jS) :=
  ob (xTerms_firstOf c a1) (fun r1 =>
  bd (F_typeFor c r1) (fun r2 c3 =>
  if 0 ≤ r2 then (
    if r2 = 0 then (
      bd (xTypist_faulty c3 (2 : Int32) r1) (fun r9 c10 =>
      some (r9, c10)))
    else (
      ob (xTypes_fromOf c3 r2) (fun r4 =>
      ob (xTerms_secondOf c3 a1) (fun r5 =>
      bd (F_typeThatIs c3 r4 r5) (fun r6 c7 =>
      if 0 ≤ r6 then (
        ob (xTypes_toOf c7 r2) (fun r8 =>
        some (r8, c7)))
      else (
        some (r6, c7)))))))
  else (
    some (r2, c3))))

noncomputable def b_xTypist_typeThatIs (F_typeFor : jS → Int32 → Option (Int32 × jS)) (F_typeForFunction : jS → Int32 → Option (Int32 × jS)) (F_typeUnder : jS → Int32 → Int32 → Int32 → Option (Int32 × jS)) (F_typeForCall : jS → Int32 → Option (Int32 × jS)) (F_typeThatIs : jS → Int32 → Int32 → Option (Int32 × jS)) (F_typeForLet : jS → Int32 → Option (Int32 × jS)) (F_typeForSum : jS → Int32 → Option (Int32 × jS)) (F_typeForChoice : jS → Int32 → Option (Int32 × jS)) (c : jS) (a1 : Int32) (a2 : Int32) : Option (Int32 × jS) :=
  bd (F_typeFor c a2) (fun r1 c2 =>
  if r1 < 0 then (
    some (r1, c2))
  else (
    if r1 = a1 then (
      some (r1, c2))
    else (
      bd (xTypist_faulty c2 (3 : Int32) a2) (fun r3 c4 =>
      some (r3, c4)))))

noncomputable def b_xTypist_typeForLet (F_typeFor : jS → Int32 → Option (Int32 × jS)) (F_typeForFunction : jS → Int32 → Option (Int32 × jS)) (F_typeUnder : jS → Int32 → Int32 → Int32 → Option (Int32 × jS)) (F_typeForCall : jS → Int32 → Option (Int32 × jS)) (F_typeThatIs : jS → Int32 → Int32 → Option (Int32 × jS)) (F_typeForLet : jS → Int32 → Option (Int32 × jS)) (F_typeForSum : jS → Int32 → Option (Int32 × jS)) (F_typeForChoice : jS → Int32 → Option (Int32 × jS)) (c : jS) (a1 : Int32) : Option (Int32 × jS) :=
  ob (xTerms_firstOf c a1) (fun r1 =>
  bd (F_typeFor c r1) (fun r2 c3 =>
  if 0 ≤ r2 then (
    ob (xTerms_letterOf c3 a1) (fun r4 =>
    ob (xTerms_secondOf c3 a1) (fun r5 =>
    bd (F_typeUnder c3 r4 r2 r5) (fun r6 c7 =>
    some (r6, c7)))))
  else (
    some (r2, c3))))

noncomputable def b_xTypist_typeForSum (F_typeFor : jS → Int32 → Option (Int32 × jS)) (F_typeForFunction : jS → Int32 → Option (Int32 × jS)) (F_typeUnder : jS → Int32 → Int32 → Int32 → Option (Int32 × jS)) (F_typeForCall : jS → Int32 → Option (Int32 × jS)) (F_typeThatIs : jS → Int32 → Int32 → Option (Int32 × jS)) (F_typeForLet : jS → Int32 → Option (Int32 × jS)) (F_typeForSum : jS → Int32 → Option (Int32 × jS)) (F_typeForChoice : jS → Int32 → Option (Int32 × jS)) (c : jS) (a1 : Int32) : Option (Int32 × jS) :=
  ob (xTerms_firstOf c a1) (fun r1 =>
  bd (F_typeThatIs c (0 : Int32) r1) (fun r2 c3 =>
  if 0 ≤ r2 then (
    ob (xTerms_secondOf c3 a1) (fun r4 =>
    bd (F_typeThatIs c3 (0 : Int32) r4) (fun r5 c6 =>
    some (r5, c6))))
  else (
    some (r2, c3))))

noncomputable def b_xTypist_typeForChoice (F_typeFor : jS → Int32 → Option (Int32 × jS)) (F_typeForFunction : jS → Int32 → Option (Int32 × jS)) (F_typeUnder : jS → Int32 → Int32 → Int32 → Option (Int32 × jS)) (F_typeForCall : jS → Int32 → Option (Int32 × jS)) (F_typeThatIs : jS → Int32 → Int32 → Option (Int32 × jS)) (F_typeForLet : jS → Int32 → Option (Int32 × jS)) (F_typeForSum : jS → Int32 → Option (Int32 × jS)) (F_typeForChoice : jS → Int32 → Option (Int32 × jS)) (c : jS) (a1 : Int32) : Option (Int32 × jS) :=
  ob (xTerms_firstOf c a1) (fun r1 =>
  bd (F_typeThatIs c (0 : Int32) r1) (fun r2 c3 =>
  if 0 ≤ r2 then (
    ob (xTerms_secondOf c3 a1) (fun r4 =>
    bd (F_typeFor c3 r4) (fun r5 c6 =>
    if 0 ≤ r5 then (
      ob (xTerms_thirdOf c6 a1) (fun r7 =>
      bd (F_typeThatIs c6 r5 r7) (fun r8 c9 =>
      some (r8, c9))))
    else (
      some (r5, c6)))))
  else (
    some (r2, c3))))

noncomputable def g_xTypist_typeFor : Nat → (jS → Int32 → Option (Int32 × jS)) × (jS → Int32 → Option (Int32 × jS)) × (jS → Int32 → Int32 → Int32 → Option (Int32 × jS)) × (jS → Int32 → Option (Int32 × jS)) × (jS → Int32 → Int32 → Option (Int32 × jS)) × (jS → Int32 → Option (Int32 × jS)) × (jS → Int32 → Option (Int32 × jS)) × (jS → Int32 → Option (Int32 × jS))
  | 0 => ((fun _ _ => none), (fun _ _ => none), (fun _ _ _ _ => none), (fun _ _ => none), (fun _ _ _ => none), (fun _ _ => none), (fun _ _ => none), (fun _ _ => none))
  | f + 1 => ((fun c a1 => b_xTypist_typeFor (g_xTypist_typeFor f).1 (g_xTypist_typeFor f).2.1 (g_xTypist_typeFor f).2.2.1 (g_xTypist_typeFor f).2.2.2.1 (g_xTypist_typeFor f).2.2.2.2.1 (g_xTypist_typeFor f).2.2.2.2.2.1 (g_xTypist_typeFor f).2.2.2.2.2.2.1 (g_xTypist_typeFor f).2.2.2.2.2.2.2 c a1), (fun c a1 => b_xTypist_typeForFunction (g_xTypist_typeFor f).1 (g_xTypist_typeFor f).2.1 (g_xTypist_typeFor f).2.2.1 (g_xTypist_typeFor f).2.2.2.1 (g_xTypist_typeFor f).2.2.2.2.1 (g_xTypist_typeFor f).2.2.2.2.2.1 (g_xTypist_typeFor f).2.2.2.2.2.2.1 (g_xTypist_typeFor f).2.2.2.2.2.2.2 c a1), (fun c a1 a2 a3 => b_xTypist_typeUnder (g_xTypist_typeFor f).1 (g_xTypist_typeFor f).2.1 (g_xTypist_typeFor f).2.2.1 (g_xTypist_typeFor f).2.2.2.1 (g_xTypist_typeFor f).2.2.2.2.1 (g_xTypist_typeFor f).2.2.2.2.2.1 (g_xTypist_typeFor f).2.2.2.2.2.2.1 (g_xTypist_typeFor f).2.2.2.2.2.2.2 c a1 a2 a3), (fun c a1 => b_xTypist_typeForCall (g_xTypist_typeFor f).1 (g_xTypist_typeFor f).2.1 (g_xTypist_typeFor f).2.2.1 (g_xTypist_typeFor f).2.2.2.1 (g_xTypist_typeFor f).2.2.2.2.1 (g_xTypist_typeFor f).2.2.2.2.2.1 (g_xTypist_typeFor f).2.2.2.2.2.2.1 (g_xTypist_typeFor f).2.2.2.2.2.2.2 c a1), (fun c a1 a2 => b_xTypist_typeThatIs (g_xTypist_typeFor f).1 (g_xTypist_typeFor f).2.1 (g_xTypist_typeFor f).2.2.1 (g_xTypist_typeFor f).2.2.2.1 (g_xTypist_typeFor f).2.2.2.2.1 (g_xTypist_typeFor f).2.2.2.2.2.1 (g_xTypist_typeFor f).2.2.2.2.2.2.1 (g_xTypist_typeFor f).2.2.2.2.2.2.2 c a1 a2), (fun c a1 => b_xTypist_typeForLet (g_xTypist_typeFor f).1 (g_xTypist_typeFor f).2.1 (g_xTypist_typeFor f).2.2.1 (g_xTypist_typeFor f).2.2.2.1 (g_xTypist_typeFor f).2.2.2.2.1 (g_xTypist_typeFor f).2.2.2.2.2.1 (g_xTypist_typeFor f).2.2.2.2.2.2.1 (g_xTypist_typeFor f).2.2.2.2.2.2.2 c a1), (fun c a1 => b_xTypist_typeForSum (g_xTypist_typeFor f).1 (g_xTypist_typeFor f).2.1 (g_xTypist_typeFor f).2.2.1 (g_xTypist_typeFor f).2.2.2.1 (g_xTypist_typeFor f).2.2.2.2.1 (g_xTypist_typeFor f).2.2.2.2.2.1 (g_xTypist_typeFor f).2.2.2.2.2.2.1 (g_xTypist_typeFor f).2.2.2.2.2.2.2 c a1), (fun c a1 => b_xTypist_typeForChoice (g_xTypist_typeFor f).1 (g_xTypist_typeFor f).2.1 (g_xTypist_typeFor f).2.2.1 (g_xTypist_typeFor f).2.2.2.1 (g_xTypist_typeFor f).2.2.2.2.1 (g_xTypist_typeFor f).2.2.2.2.2.1 (g_xTypist_typeFor f).2.2.2.2.2.2.1 (g_xTypist_typeFor f).2.2.2.2.2.2.2 c a1))

noncomputable def xTypist_typeFor (f : Nat) : jS → Int32 → Option (Int32 × jS) := (g_xTypist_typeFor f).1

noncomputable def xTypist_typeForFunction (f : Nat) : jS → Int32 → Option (Int32 × jS) := (g_xTypist_typeFor f).2.1

noncomputable def xTypist_typeUnder (f : Nat) : jS → Int32 → Int32 → Int32 → Option (Int32 × jS) := (g_xTypist_typeFor f).2.2.1

noncomputable def xTypist_typeForCall (f : Nat) : jS → Int32 → Option (Int32 × jS) := (g_xTypist_typeFor f).2.2.2.1

noncomputable def xTypist_typeThatIs (f : Nat) : jS → Int32 → Int32 → Option (Int32 × jS) := (g_xTypist_typeFor f).2.2.2.2.1

noncomputable def xTypist_typeForLet (f : Nat) : jS → Int32 → Option (Int32 × jS) := (g_xTypist_typeFor f).2.2.2.2.2.1

noncomputable def xTypist_typeForSum (f : Nat) : jS → Int32 → Option (Int32 × jS) := (g_xTypist_typeFor f).2.2.2.2.2.2.1

noncomputable def xTypist_typeForChoice (f : Nat) : jS → Int32 → Option (Int32 × jS) := (g_xTypist_typeFor f).2.2.2.2.2.2.2

theorem xTypist_typeFor_s (f : Nat) : xTypist_typeFor (f + 1) = b_xTypist_typeFor (xTypist_typeFor f) (xTypist_typeForFunction f) (xTypist_typeUnder f) (xTypist_typeForCall f) (xTypist_typeThatIs f) (xTypist_typeForLet f) (xTypist_typeForSum f) (xTypist_typeForChoice f) := rfl

theorem xTypist_typeForFunction_s (f : Nat) : xTypist_typeForFunction (f + 1) = b_xTypist_typeForFunction (xTypist_typeFor f) (xTypist_typeForFunction f) (xTypist_typeUnder f) (xTypist_typeForCall f) (xTypist_typeThatIs f) (xTypist_typeForLet f) (xTypist_typeForSum f) (xTypist_typeForChoice f) := rfl

theorem xTypist_typeUnder_s (f : Nat) : xTypist_typeUnder (f + 1) = b_xTypist_typeUnder (xTypist_typeFor f) (xTypist_typeForFunction f) (xTypist_typeUnder f) (xTypist_typeForCall f) (xTypist_typeThatIs f) (xTypist_typeForLet f) (xTypist_typeForSum f) (xTypist_typeForChoice f) := rfl

theorem xTypist_typeForCall_s (f : Nat) : xTypist_typeForCall (f + 1) = b_xTypist_typeForCall (xTypist_typeFor f) (xTypist_typeForFunction f) (xTypist_typeUnder f) (xTypist_typeForCall f) (xTypist_typeThatIs f) (xTypist_typeForLet f) (xTypist_typeForSum f) (xTypist_typeForChoice f) := rfl

theorem xTypist_typeThatIs_s (f : Nat) : xTypist_typeThatIs (f + 1) = b_xTypist_typeThatIs (xTypist_typeFor f) (xTypist_typeForFunction f) (xTypist_typeUnder f) (xTypist_typeForCall f) (xTypist_typeThatIs f) (xTypist_typeForLet f) (xTypist_typeForSum f) (xTypist_typeForChoice f) := rfl

theorem xTypist_typeForLet_s (f : Nat) : xTypist_typeForLet (f + 1) = b_xTypist_typeForLet (xTypist_typeFor f) (xTypist_typeForFunction f) (xTypist_typeUnder f) (xTypist_typeForCall f) (xTypist_typeThatIs f) (xTypist_typeForLet f) (xTypist_typeForSum f) (xTypist_typeForChoice f) := rfl

theorem xTypist_typeForSum_s (f : Nat) : xTypist_typeForSum (f + 1) = b_xTypist_typeForSum (xTypist_typeFor f) (xTypist_typeForFunction f) (xTypist_typeUnder f) (xTypist_typeForCall f) (xTypist_typeThatIs f) (xTypist_typeForLet f) (xTypist_typeForSum f) (xTypist_typeForChoice f) := rfl

theorem xTypist_typeForChoice_s (f : Nat) : xTypist_typeForChoice (f + 1) = b_xTypist_typeForChoice (xTypist_typeFor f) (xTypist_typeForFunction f) (xTypist_typeUnder f) (xTypist_typeForCall f) (xTypist_typeThatIs f) (xTypist_typeForLet f) (xTypist_typeForSum f) (xTypist_typeForChoice f) := rfl

noncomputable def xTypist_wholeTypeOf_S13 (v1 : Int32) (v2 : Int32) (c : jS) : Option ((Int32 × Int32 × jS) ⊕ (Int32 × jS)) :=
  if (26 : Int32) ≤ v2 then (
    ob (xTypes_total c) (fun r3 =>
    bd (xTypist_typeFor 130 c v1) (fun r4 c5 =>
    if 0 ≤ r4 then (
      some (Sum.inr (r4, c5)))
    else (
      bd (xTypes_cutTo c5 r3) (fun _ c6 =>
      some (Sum.inr (r4, c6)))))))
  else (
    gd (ix v2 26) (
    gd (ix v2 26) (lt (su c 19 (v2).toNatClampNeg (c 18 (v2).toNatClampNeg)) (fun c7 =>
    some (Sum.inl (v1, (v2 + (1 : Int32)), c7))))))
noncomputable def xTypist_wholeTypeOf_L13 (v1 : Int32) (v2 : Int32) (c : jS) : Option (Int32 × jS) :=
  lp (fun s : (Int32 × Int32 × jS) => xTypist_wholeTypeOf_S13 s.1 s.2.1 s.2.2) (v1, v2, c)
noncomputable def xTypist_wholeTypeOf (c : jS) (a1 : Int32) : Option (Int32 × jS) :=
  lt (su c 17 4 (0 : Int32)) (fun c1 =>
  lt (su c1 17 5 (-2 : Int32)) (fun c2 =>
  xTypist_wholeTypeOf_L13 a1 (0 : Int32) c2))

noncomputable def xc_arrow (c : jS) (a1 : Int32) (a2 : Int32) : Option (Int32 × jS) :=
  ob (xTypes_has c a1) (fun r1 =>
  if r1 = 0 then (
    some ((-1 : Int32), c))
  else (
    ob (xTypes_has c a2) (fun r2 =>
    if r2 = 0 then (
      some ((-1 : Int32), c))
    else (
      bd (xTypes_arrowOf c a1 a2) (fun r3 c4 =>
      some (r3, c4))))))

noncomputable def xc_side (c : jS) (a1 : Int32) (a2 : Int32) : Option Int32 :=
  ob (xTypes_has c a1) (fun r1 =>
  if r1 = 0 then (
    some (-1 : Int32))
  else (
    if a2 < 0 then (
      some (-1 : Int32))
    else (
      if a2 ≤ (1 : Int32) then (
        if a2 = 0 then (
          ob (xTypes_fromOf c a1) (fun r3 =>
          some (r3)))
        else (
          ob (xTypes_toOf c a1) (fun r2 =>
          some (r2))))
      else (
        some (-1 : Int32)))))

noncomputable def xc_declare (c : jS) (a1 : Int32) (a2 : Int32) : Option (Int32 × jS) :=
  ob (xc_isLetter c a1) (fun r1 =>
  if r1 = 0 then (
    some ((-1 : Int32), c))
  else (
    if a2 = (-2 : Int32) then (
      bd (xTypist_setDeclared c a1 a2) (fun _ c2 =>
      some ((1 : Int32), c2)))
    else (
      ob (xTypes_has c a2) (fun r3 =>
      if r3 = 0 then (
        some ((-1 : Int32), c))
      else (
        bd (xTypist_setDeclared c a1 a2) (fun _ c4 =>
        some ((1 : Int32), c4)))))))

noncomputable def xc_number (c : jS) (a1 : Int32) : Option (Int32 × jS) :=
  bd (xTerms_newNumber c a1) (fun r1 c2 =>
  some (r1, c2))

noncomputable def xc_name (c : jS) (a1 : Int32) : Option (Int32 × jS) :=
  ob (xc_isLetter c a1) (fun r1 =>
  if r1 = 0 then (
    some ((-1 : Int32), c))
  else (
    bd (xTerms_newName c a1) (fun r2 c3 =>
    some (r2, c3))))

noncomputable def xc_function (c : jS) (a1 : Int32) (a2 : Int32) (a3 : Int32) : Option (Int32 × jS) :=
  ob (xc_isLetter c a1) (fun r1 =>
  if r1 = 0 then (
    some ((-1 : Int32), c))
  else (
    ob (xTypes_has c a2) (fun r2 =>
    if r2 = 0 then (
      some ((-1 : Int32), c))
    else (
      ob (xTerms_has c a3) (fun r3 =>
      if r3 = 0 then (
        some ((-1 : Int32), c))
      else (
        bd (xTerms_newFunction c a1 a2 a3) (fun r4 c5 =>
        some (r4, c5))))))))

noncomputable def xc_let (c : jS) (a1 : Int32) (a2 : Int32) (a3 : Int32) : Option (Int32 × jS) :=
  ob (xc_isLetter c a1) (fun r1 =>
  if r1 = 0 then (
    some ((-1 : Int32), c))
  else (
    ob (xTerms_has c a2) (fun r2 =>
    if r2 = 0 then (
      some ((-1 : Int32), c))
    else (
      ob (xTerms_has c a3) (fun r3 =>
      if r3 = 0 then (
        some ((-1 : Int32), c))
      else (
        bd (xTerms_newLet c a1 a2 a3) (fun r4 c5 =>
        some (r4, c5))))))))

noncomputable def xc_join_P16 (v1 : Int32) (v2 : Int32) (v3 : Int32) (v4 : Int32) (c : jS) : Option (Int32 × jS) :=
  ob (xTerms_has c v2) (fun r1 =>
  if r1 = 0 then (
    some ((-1 : Int32), c))
  else (
    ob (xTerms_has c v3) (fun r2 =>
    if r2 = 0 then (
      some ((-1 : Int32), c))
    else (
      if v1 = (6 : Int32) then (
        ob (xTerms_has c v4) (fun r3 =>
        if r3 = 0 then (
          some ((-1 : Int32), c))
        else (
          bd (xTerms_newJoined c v1 v2 v3 v4) (fun r4 c5 =>
          some (r4, c5)))))
      else (
        bd (xTerms_newJoined c v1 v2 v3 (-2 : Int32)) (fun r6 c7 =>
        some (r6, c7)))))))
noncomputable def xc_join (c : jS) (a1 : Int32) (a2 : Int32) (a3 : Int32) (a4 : Int32) : Option (Int32 × jS) :=
  if a1 = (3 : Int32) then (
    xc_join_P16 a1 a2 a3 a4 c)
  else (
    if a1 = (5 : Int32) then (
      xc_join_P16 a1 a2 a3 a4 c)
    else (
      if a1 = (6 : Int32) then (
        xc_join_P16 a1 a2 a3 a4 c)
      else (
        some ((-1 : Int32), c))))

noncomputable def xc_told (c : jS) (a1 : Int32) (a2 : Int32) : Option Int64 :=
  ob (xTerms_has c a1) (fun r1 =>
  if r1 = 0 then (
    some (-1 : Int64))
  else (
    if a2 = 0 then (
      ob (xTerms_kindOf c a1) (fun r2 =>
      some (r2.toInt64)))
    else (
    if a2 = 1 then (
      ob (xTerms_sizeOf c a1) (fun r3 =>
      some (r3.toInt64)))
    else (
    if a2 = 2 then (
      ob (xTerms_depthOf c a1) (fun r4 =>
      some (r4.toInt64)))
    else (
    if a2 = 3 then (
      ob (xTerms_numberOf c a1) (fun r5 =>
      some (r5.toInt64)))
    else (
    if a2 = 4 then (
      ob (xTerms_letterOf c a1) (fun r6 =>
      some (r6.toInt64)))
    else (
    if a2 = 5 then (
      ob (xTerms_typeOf c a1) (fun r7 =>
      some (r7.toInt64)))
    else (
    if a2 = 6 then (
      ob (xTerms_firstOf c a1) (fun r8 =>
      some (r8.toInt64)))
    else (
    if a2 = 7 then (
      ob (xTerms_secondOf c a1) (fun r9 =>
      some (r9.toInt64)))
    else (
    if a2 = 8 then (
      ob (xTerms_thirdOf c a1) (fun r10 =>
      some (r10.toInt64)))
    else (
    some (-1 : Int64))))))))))))

noncomputable def xc_free (c : jS) (a1 : Int32) : Option Int32 :=
  ob (xTerms_has c a1) (fun r1 =>
  if r1 = 0 then (
    some (-1 : Int32))
  else (
    ob (xTerms_freeLettersOf c a1) (fun r2 =>
    some (r2))))

noncomputable def xc_uses (c : jS) (a1 : Int32) (a2 : Int32) : Option Int32 :=
  ob (xTerms_has c a1) (fun r1 =>
  if r1 = 0 then (
    some (-1 : Int32))
  else (
    ob (xc_isLetter c a2) (fun r2 =>
    if r2 = 0 then (
      some (-1 : Int32))
    else (
      ob (xTerms_usesOf 130 c a1 a2) (fun r3 =>
      some (r3))))))

noncomputable def xc_type (c : jS) (a1 : Int32) : Option (Int32 × jS) :=
  ob (xTerms_has c a1) (fun r1 =>
  if r1 = 0 then (
    some ((-1 : Int32), c))
  else (
    bd (xTypist_wholeTypeOf c a1) (fun r2 c3 =>
    some (r2, c3))))

noncomputable def xc_fault (c : jS) (a1 : Int32) : Option Int32 :=
  if a1 = 0 then (
    ob (xTypist_latestFault c) (fun r1 =>
    some (r1)))
  else (
  if a1 = 1 then (
    ob (xTypist_latestFaultAt c) (fun r2 =>
    some (r2)))
  else (
  some (-1 : Int32)))

noncomputable def xc_alike (c : jS) (a1 : Int32) (a2 : Int32) : Option (Int32 × jS) :=
  ob (xTerms_has c a1) (fun r1 =>
  if r1 = 0 then (
    some ((-1 : Int32), c))
  else (
    ob (xTerms_has c a2) (fun r2 =>
    if r2 = 0 then (
      some ((-1 : Int32), c))
    else (
      bd (xComparer_areAlike c a1 a2) (fun r3 c4 =>
      if r3 = 0 then (
        some ((0 : Int32), c4))
      else (
        some ((1 : Int32), c4)))))))

noncomputable def xc_least_S15 (v1 : Int32) (v2 : Int32) (c : jS) : Option ((Int32 × Int32 × jS) ⊕ (Int32 × jS)) :=
  if v1 ≤ v2 then (
    some (Sum.inr (v1, c)))
  else (
    bd (xComparer_areAlike c v1 v2) (fun r2 c3 =>
    if r2 = 0 then (
      some (Sum.inl (v1, (v2 + (1 : Int32)), c3)))
    else (
      some (Sum.inr (v2, c3)))))
noncomputable def xc_least_L15 (v1 : Int32) (v2 : Int32) (c : jS) : Option (Int32 × jS) :=
  lp (fun s : (Int32 × Int32 × jS) => xc_least_S15 s.1 s.2.1 s.2.2) (v1, v2, c)
noncomputable def xc_least (c : jS) (a1 : Int32) : Option (Int32 × jS) :=
  ob (xTerms_has c a1) (fun r1 =>
  if r1 = 0 then (
    some ((-1 : Int32), c))
  else (
    xc_least_L15 a1 (0 : Int32) c))

noncomputable def xc_keptOrUndone (c : jS) (a1 : Int32) (a2 : Int32) : Option (Int32 × jS) :=
  if 0 ≤ a1 then (
    some (a1, c))
  else (
    bd (xTerms_cutTo c a2) (fun _ c1 =>
    some (a1, c1)))

noncomputable def xc_put (c : jS) (a1 : Int32) (a2 : Int32) (a3 : Int32) : Option (Int32 × jS) :=
  ob (xTerms_has c a1) (fun r1 =>
  if r1 = 0 then (
    some ((-1 : Int32), c))
  else (
    ob (xc_isLetter c a2) (fun r2 =>
    if r2 = 0 then (
      some ((-1 : Int32), c))
    else (
      ob (xTerms_has c a3) (fun r3 =>
      if r3 = 0 then (
        some ((-1 : Int32), c))
      else (
        ob (xTerms_total c) (fun r4 =>
        bd (xPutter_into 130 c a1 a2 a3) (fun r5 c6 =>
        bd (xc_keptOrUndone c6 r5 r4) (fun r7 c8 =>
        some (r7, c8))))))))))

noncomputable def xc_step (c : jS) (a1 : Int32) : Option (Int32 × jS) :=
  ob (xTerms_has c a1) (fun r1 =>
  if r1 = 0 then (
    some ((-1 : Int32), c))
  else (
    ob (xTerms_total c) (fun r2 =>
    bd (xStepper_stepOf 130 c a1) (fun r3 c4 =>
    bd (xc_keptOrUndone c4 r3 r2) (fun r5 c6 =>
    some (r5, c6))))))

noncomputable def xc_run_S40 (v2 : Int32) (v3 : Int32) (v4 : Int32) (v5 : Int32) (v6 : Int32) (c : jS) : Option ((Int32 × Int32 × Int32 × Int32 × Int32 × jS) ⊕ (Int32 × jS)) :=
  if v2 ≤ v6 then (
    lt (su c 0 9 v5) (fun c3 =>
    some (Sum.inr (v4, c3))))
  else (
    bd (xStepper_stepOf 130 c v4) (fun r4 c5 =>
    if r4 = (-3 : Int32) then (
      bd (xc_keptOrUndone c5 (-3 : Int32) v3) (fun r7 c8 =>
      some (Sum.inr (r7, c8))))
    else (
      if 0 ≤ r4 then (
        some (Sum.inl (v2, v3, r4, (v5 + (1 : Int32)), (v6 + (1 : Int32)), c5)))
      else (
        lt (su c5 0 9 v5) (fun c6 =>
        some (Sum.inr (v4, c6)))))))
noncomputable def xc_run_L40 (v2 : Int32) (v3 : Int32) (v4 : Int32) (v5 : Int32) (v6 : Int32) (c : jS) : Option (Int32 × jS) :=
  lp (fun s : (Int32 × Int32 × Int32 × Int32 × Int32 × jS) => xc_run_S40 s.1 s.2.1 s.2.2.1 s.2.2.2.1 s.2.2.2.2.1 s.2.2.2.2.2) (v2, v3, v4, v5, v6, c)
noncomputable def xc_run (c : jS) (a1 : Int32) (a2 : Int32) : Option (Int32 × jS) :=
  ob (xTerms_has c a1) (fun r1 =>
  if r1 = 0 then (
    some ((-1 : Int32), c))
  else (
    if a2 < 0 then (
      some ((-1 : Int32), c))
    else (
      if a2 ≤ (50 : Int32) then (
        ob (xTerms_total c) (fun r2 =>
        xc_run_L40 a2 r2 a1 (0 : Int32) (0 : Int32) c))
      else (
        some ((-1 : Int32), c)))))

noncomputable def xc_ran (c : jS) : Option Int32 :=
  some (c 0 9)

noncomputable def xc_drop (c : jS) (a1 : Int32) : Option (Int32 × jS) :=
  ob (xTerms_has c a1) (fun r1 =>
  if r1 = 0 then (
    some ((-1 : Int32), c))
  else (
    ob (xTerms_total c) (fun r2 =>
    bd (xDropper_withoutLets 130 c a1) (fun r3 c4 =>
    bd (xc_keptOrUndone c4 r3 r2) (fun r5 c6 =>
    some (r5, c6))))))

noncomputable def xc_print (c : jS) (a1 : Int32) : Option (Int32 × jS) :=
  ob (xTerms_has c a1) (fun r1 =>
  if r1 = 0 then (
    some ((-1 : Int32), c))
  else (
    bd (xPrinter_show c a1) (fun r2 c3 =>
    some (r2, c3))))

noncomputable def xc_at (c : jS) (a1 : Int32) : Option Int32 :=
  ob (xPrinter_byteAt c a1) (fun r1 =>
  some (r1))

noncomputable def xc_feed (c : jS) (a1 : Int64) (a3 : Int32) : Option (Int32 × jS) :=
  bd (xReader_addBytes c a1 a3) (fun r1 c2 =>
  some (r1, c2))

noncomputable def xc_copy (c : jS) : Option (Int32 × jS) :=
  bd (xReader_takeFrom c) (fun r1 c2 =>
  some (r1, c2))

noncomputable def xc_read (c : jS) : Option (Int32 × jS) :=
  bd (xReader_wholeTape c) (fun r1 c2 =>
  some (r1, c2))

noncomputable def xc_count (c : jS) (a1 : Int32) : Option Int32 :=
  if a1 = 0 then (
    ob (xTerms_total c) (fun r1 =>
    some (r1)))
  else (
  if a1 = 1 then (
    ob (xTypes_total c) (fun r2 =>
    some (r2)))
  else (
  if a1 = 2 then (
    ob (xReader_tapeLength c) (fun r3 =>
    some (r3)))
  else (
  if a1 = 3 then (
    ob (xPrinter_printLength c) (fun r4 =>
    some (r4)))
  else (
  some (-1 : Int32)))))

noncomputable def xc_clear (c : jS) : Option (Int32 × jS) :=
  ob (xTerms_total c) (fun r1 =>
  bd (xTerms_cutTo c (0 : Int32)) (fun _ c2 =>
  some (r1, c2)))
