noncomputable def m_in (c : jS) (a0 : Int32) (a1 : Int32) (a2 : Int32) : Option Int32 :=
  if a0 < a1 then (
    some (0 : Int32))
  else (
    if a2 < a0 then (
      some (0 : Int32))
    else (
      some (1 : Int32)))

noncomputable def m_isLetter (c : jS) (a0 : Int32) : Option Int32 :=
  ob (m_in c a0 (0 : Int32) (25 : Int32)) (fun r1 =>
  gd (bz r1) (some (r1)))

noncomputable def m_isType (c : jS) (a1 : Int32) : Option Int32 :=
  ob (m_in c a1 (0 : Int32) ((c 30 0) - (1 : Int32))) (fun r1 =>
  gd (bz r1) (some (r1)))

noncomputable def m_arrowOf_S2 (v1 : Int32) (v2 : Int32) (v3 : Int32) (c : jS) : Option ((Int32 × Int32 × Int32 × jS) ⊕ (Int32 × jS)) :=
  if (c 30 0) ≤ v3 then (
    if (c 30 0) = (40 : Int32) then (
      some (Sum.inr ((-3 : Int32), c)))
    else (
      gd (ix v1 40) (
      gd (ix v2 40) (
      if (((c 33 (v1).toNatClampNeg) + (c 33 (v2).toNatClampNeg)) + (3 : Int32)) ≤ (40 : Int32) then (
        gd (ix (c 30 0) 40) (lt (su c 31 ((c 30 0)).toNatClampNeg v1) (fun c1 =>
        gd (ix (c1 30 0) 40) (lt (su c1 32 ((c1 30 0)).toNatClampNeg v2) (fun c2 =>
        gd (ix v1 40) (
        gd (ix v2 40) (
        gd (ix (c2 30 0) 40) (lt (su c2 33 ((c2 30 0)).toNatClampNeg (((c2 33 (v1).toNatClampNeg) + (c2 33 (v2).toNatClampNeg)) + (3 : Int32))) (fun c3 =>
        lt (su c3 30 0 ((c3 30 0) + (1 : Int32))) (fun c4 =>
        some (Sum.inr (((c4 30 0) - (1 : Int32)), c4))))))))))))
      else (
        some (Sum.inr ((-3 : Int32), c)))))))
  else (
    gd (ix v3 40) (
    if (c 31 (v3).toNatClampNeg) = v1 then (
      gd (ix v3 40) (
      if (c 32 (v3).toNatClampNeg) = v2 then (
        some (Sum.inr (v3, c)))
      else (
        some (Sum.inl (v1, v2, (v3 + (1 : Int32)), c)))))
    else (
      some (Sum.inl (v1, v2, (v3 + (1 : Int32)), c)))))
noncomputable def m_arrowOf_L2 (v1 : Int32) (v2 : Int32) (v3 : Int32) (c : jS) : Option (Int32 × jS) :=
  lp (fun s : (Int32 × Int32 × Int32 × jS) => m_arrowOf_S2 s.1 s.2.1 s.2.2.1 s.2.2.2) (v1, v2, v3, c)
noncomputable def m_arrowOf (c : jS) (a1 : Int32) (a2 : Int32) : Option (Int32 × jS) :=
  m_arrowOf_L2 a1 a2 (1 : Int32) c

noncomputable def m_arrow (c : jS) (a1 : Int32) (a2 : Int32) : Option (Int32 × jS) :=
  ob (m_isType c a1) (fun r1 =>
  if r1 = 0 then (
    some ((-1 : Int32), c))
  else (
    ob (m_isType c a2) (fun r2 =>
    if r2 = 0 then (
      some ((-1 : Int32), c))
    else (
      bd (m_arrowOf c a1 a2) (fun r3 c4 =>
      some (r3, c4))))))

noncomputable def m_side (c : jS) (a1 : Int32) (a2 : Int32) : Option Int32 :=
  ob (m_isType c a1) (fun r1 =>
  if r1 = 0 then (
    some (-1 : Int32))
  else (
    ob (m_in c a2 (0 : Int32) (1 : Int32)) (fun r2 =>
    if r2 = 0 then (
      some (-1 : Int32))
    else (
      if a2 = 0 then (
        gd (ix a1 40) (
        some (c 31 (a1).toNatClampNeg)))
      else (
        gd (ix a1 40) (
        some (c 32 (a1).toNatClampNeg)))))))

noncomputable def m_declare (c : jS) (a1 : Int32) (a2 : Int32) : Option (Int32 × jS) :=
  ob (m_isLetter c a1) (fun r1 =>
  if r1 = 0 then (
    some ((-1 : Int32), c))
  else (
    if a2 = (-2 : Int32) then (
      gd (ix a1 26) (lt (su c 34 (a1).toNatClampNeg a2) (fun c2 =>
      some ((1 : Int32), c2))))
    else (
      ob (m_isType c a2) (fun r3 =>
      if r3 = 0 then (
        some ((-1 : Int32), c))
      else (
        gd (ix a1 26) (lt (su c 34 (a1).toNatClampNeg a2) (fun c4 =>
        some ((1 : Int32), c4))))))))

noncomputable def m_isTerm (c : jS) (a1 : Int32) : Option Int32 :=
  ob (m_in c a1 (0 : Int32) ((c 30 5) - (1 : Int32))) (fun r1 =>
  gd (bz r1) (some (r1)))

noncomputable def m_partsOf (c : jS) (a0 : Int32) : Option Int32 :=
  if (2 : Int32) ≤ a0 then (
    if a0 = (2 : Int32) then (
      some (1 : Int32))
    else (
      if a0 = (6 : Int32) then (
        some (3 : Int32))
      else (
        some (2 : Int32))))
  else (
    some (0 : Int32))

noncomputable def m_part (c : jS) (a1 : Int32) (a2 : Int32) : Option Int32 :=
  gd (ix (((3 : Int32) * a1) + a2) 1200) (
  some (c 39 ((((3 : Int32) * a1) + a2)).toNatClampNeg))

noncomputable def m_freeOf (c : jS) (a1 : Int32) (a2 : Int32) : Option Int32 :=
  gd (ix (((26 : Int32) * a1) + a2) 10400) (
  some (c 42 ((((26 : Int32) * a1) + a2)).toNatClampNeg))

noncomputable def m_isFree (c : jS) (a1 : Int32) (a2 : Int32) : Option Int32 :=
  gd (ix (((26 : Int32) * a1) + a2) 10400) (
  if (c 42 ((((26 : Int32) * a1) + a2)).toNatClampNeg) ≤ 0 then (
    some (0 : Int32))
  else (
    some (1 : Int32)))

noncomputable def m_make_P235_201 (v1 : Int32) (v3 : Int32) (v8 : Int32) (v9 : Int32) (v10 : Int32) (v11 : Int32) (v12 : Int32) (v13 : Int32) (s0 : Int32) (c : jS) : Option ((Int32 × Int32 × Int32 × Int32 × Int32 × Int32 × Int32 × Int32 × jS) ⊕ ((Int32 × Int32 × Int32 × Int32 × Int32 × Int32 × jS) ⊕ (Int32 × jS))) :=
  gd (ix (((26 : Int32) * v8) + v13) 10400) (
  if s0 = 0 then (
    ob (m_freeOf c v12 v13) (fun r13 =>
    gd (ix (((26 : Int32) * v8) + v13) 10400) (lt (su c 42 ((((26 : Int32) * v8) + v13)).toNatClampNeg ((c 42 ((((26 : Int32) * v8) + v13)).toNatClampNeg) + r13)) (fun c14 =>
    some (Sum.inl (v1, v3, v8, v9, v10, v11, v12, (v13 + (1 : Int32)), c14))))))
  else (
    gd (ix (((26 : Int32) * v8) + v13) 10400) (lt (su c 42 ((((26 : Int32) * v8) + v13)).toNatClampNeg ((c 42 ((((26 : Int32) * v8) + v13)).toNatClampNeg) + (0 : Int32))) (fun c15 =>
    some (Sum.inl (v1, v3, v8, v9, v10, v11, v12, (v13 + (1 : Int32)), c15))))))
noncomputable def m_make_P230_201 (v1 : Int32) (v3 : Int32) (v8 : Int32) (v9 : Int32) (v10 : Int32) (v11 : Int32) (v12 : Int32) (v13 : Int32) (c : jS) : Option ((Int32 × Int32 × Int32 × Int32 × Int32 × Int32 × Int32 × Int32 × jS) ⊕ ((Int32 × Int32 × Int32 × Int32 × Int32 × Int32 × jS) ⊕ (Int32 × jS))) :=
  m_make_P235_201 v1 v3 v8 v9 v10 v11 v12 v13 (1 : Int32) c
noncomputable def m_make_P234_201 (v1 : Int32) (v3 : Int32) (v8 : Int32) (v9 : Int32) (v10 : Int32) (v11 : Int32) (v12 : Int32) (v13 : Int32) (c : jS) : Option ((Int32 × Int32 × Int32 × Int32 × Int32 × Int32 × Int32 × Int32 × jS) ⊕ ((Int32 × Int32 × Int32 × Int32 × Int32 × Int32 × jS) ⊕ (Int32 × jS))) :=
  m_make_P235_201 v1 v3 v8 v9 v10 v11 v12 v13 (0 : Int32) c
noncomputable def m_make_S201 (v1 : Int32) (v3 : Int32) (v8 : Int32) (v9 : Int32) (v10 : Int32) (v11 : Int32) (v12 : Int32) (v13 : Int32) (c : jS) : Option ((Int32 × Int32 × Int32 × Int32 × Int32 × Int32 × Int32 × Int32 × jS) ⊕ ((Int32 × Int32 × Int32 × Int32 × Int32 × Int32 × jS) ⊕ (Int32 × jS))) :=
  if (26 : Int32) ≤ v13 then (
    some (Sum.inr (Sum.inl (v1, v3, v8, v9, v10, (v11 + (1 : Int32)), c))))
  else (
    if v13 = v3 then (
      if v1 = (2 : Int32) then (
        m_make_P230_201 v1 v3 v8 v9 v10 v11 v12 v13 c)
      else (
        if v1 = (4 : Int32) then (
          if v11 = (1 : Int32) then (
            m_make_P230_201 v1 v3 v8 v9 v10 v11 v12 v13 c)
          else (
            m_make_P234_201 v1 v3 v8 v9 v10 v11 v12 v13 c))
        else (
          m_make_P234_201 v1 v3 v8 v9 v10 v11 v12 v13 c)))
    else (
      m_make_P234_201 v1 v3 v8 v9 v10 v11 v12 v13 c))
noncomputable def m_make_L201 (v1 : Int32) (v3 : Int32) (v8 : Int32) (v9 : Int32) (v10 : Int32) (v11 : Int32) (v12 : Int32) (v13 : Int32) (c : jS) : Option ((Int32 × Int32 × Int32 × Int32 × Int32 × Int32 × jS) ⊕ (Int32 × jS)) :=
  lp (fun s : (Int32 × Int32 × Int32 × Int32 × Int32 × Int32 × Int32 × Int32 × jS) => m_make_S201 s.1 s.2.1 s.2.2.1 s.2.2.2.1 s.2.2.2.2.1 s.2.2.2.2.2.1 s.2.2.2.2.2.2.1 s.2.2.2.2.2.2.2.1 s.2.2.2.2.2.2.2.2) (v1, v3, v8, v9, v10, v11, v12, v13, c)
noncomputable def m_make_S141 (v1 : Int32) (v3 : Int32) (v8 : Int32) (v9 : Int32) (v10 : Int32) (v11 : Int32) (c : jS) : Option ((Int32 × Int32 × Int32 × Int32 × Int32 × Int32 × jS) ⊕ (Int32 × jS)) :=
  ob (m_partsOf c v1) (fun r8 =>
  if r8 ≤ v11 then (
    gd (ix v8 400) (lt (su c 40 (v8).toNatClampNeg v9) (fun c9 =>
    gd (ix v8 400) (lt (su c9 41 (v8).toNatClampNeg (v10 + (1 : Int32))) (fun c10 =>
    if (1000 : Int32) < v9 then (
      some (Sum.inr ((-3 : Int32), c10)))
    else (
      if (v10 + (1 : Int32)) ≤ (40 : Int32) then (
        lt (su c10 30 5 ((c10 30 5) + (1 : Int32))) (fun c11 =>
        some (Sum.inr (v8, c11))))
      else (
        some (Sum.inr ((-3 : Int32), c10)))))))))
  else (
    ob (m_part c v8 v11) (fun r12 =>
    gd (ix r12 400) (
    gd (ix r12 400) (
    if (c 41 (r12).toNatClampNeg) ≤ v10 then (
      m_make_L201 v1 v3 v8 (v9 + (c 40 (r12).toNatClampNeg)) v10 v11 r12 (0 : Int32) c)
    else (
      gd (ix r12 400) (
      m_make_L201 v1 v3 v8 (v9 + (c 40 (r12).toNatClampNeg)) (c 41 (r12).toNatClampNeg) v11 r12 (0 : Int32) c)))))))
noncomputable def m_make_L141 (v1 : Int32) (v3 : Int32) (v8 : Int32) (v9 : Int32) (v10 : Int32) (v11 : Int32) (c : jS) : Option (Int32 × jS) :=
  lp (fun s : (Int32 × Int32 × Int32 × Int32 × Int32 × Int32 × jS) => m_make_S141 s.1 s.2.1 s.2.2.1 s.2.2.2.1 s.2.2.2.2.1 s.2.2.2.2.2.1 s.2.2.2.2.2.2) (v1, v3, v8, v9, v10, v11, c)
noncomputable def m_make_S96 (v1 : Int32) (v3 : Int32) (v8 : Int32) (v9 : Int32) (v10 : Int32) (v11 : Int32) (c : jS) : Option ((Int32 × Int32 × Int32 × Int32 × Int32 × Int32 × jS) ⊕ (Int32 × jS)) :=
  if (26 : Int32) ≤ v11 then (
    om (m_make_L141 v1 v3 v8 v9 v10 (0 : Int32) c))
  else (
    if v1 = (1 : Int32) then (
      if v11 = v3 then (
        gd (ix (((26 : Int32) * v8) + v11) 10400) (lt (su c 42 ((((26 : Int32) * v8) + v11)).toNatClampNeg (1 : Int32)) (fun c18 =>
        some (Sum.inl (v1, v3, v8, v9, v10, (v11 + (1 : Int32)), c18)))))
      else (
        gd (ix (((26 : Int32) * v8) + v11) 10400) (lt (su c 42 ((((26 : Int32) * v8) + v11)).toNatClampNeg (0 : Int32)) (fun c17 =>
        some (Sum.inl (v1, v3, v8, v9, v10, (v11 + (1 : Int32)), c17))))))
    else (
      gd (ix (((26 : Int32) * v8) + v11) 10400) (lt (su c 42 ((((26 : Int32) * v8) + v11)).toNatClampNeg (0 : Int32)) (fun c16 =>
      some (Sum.inl (v1, v3, v8, v9, v10, (v11 + (1 : Int32)), c16))))))
noncomputable def m_make_L96 (v1 : Int32) (v3 : Int32) (v8 : Int32) (v9 : Int32) (v10 : Int32) (v11 : Int32) (c : jS) : Option (Int32 × jS) :=
  lp (fun s : (Int32 × Int32 × Int32 × Int32 × Int32 × Int32 × jS) => m_make_S96 s.1 s.2.1 s.2.2.1 s.2.2.2.1 s.2.2.2.2.1 s.2.2.2.2.2.1 s.2.2.2.2.2.2) (v1, v3, v8, v9, v10, v11, c)
noncomputable def m_make (c : jS) (a1 : Int32) (a2 : Int32) (a3 : Int32) (a4 : Int32) (a5 : Int32) (a6 : Int32) (a7 : Int32) : Option (Int32 × jS) :=
  if (c 30 5) = (400 : Int32) then (
    some ((-3 : Int32), c))
  else (
    gd (ix (c 30 5) 400) (lt (su c 35 ((c 30 5)).toNatClampNeg a1) (fun c1 =>
    gd (ix (c 30 5) 400) (lt (su c1 36 ((c 30 5)).toNatClampNeg a2) (fun c2 =>
    gd (ix (c 30 5) 400) (lt (su c2 37 ((c 30 5)).toNatClampNeg a3) (fun c3 =>
    gd (ix (c 30 5) 400) (lt (su c3 38 ((c 30 5)).toNatClampNeg a4) (fun c4 =>
    gd (ix ((3 : Int32) * (c 30 5)) 1200) (lt (su c4 39 (((3 : Int32) * (c 30 5))).toNatClampNeg a5) (fun c5 =>
    gd (ix (((3 : Int32) * (c 30 5)) + (1 : Int32)) 1200) (lt (su c5 39 ((((3 : Int32) * (c 30 5)) + (1 : Int32))).toNatClampNeg a6) (fun c6 =>
    gd (ix (((3 : Int32) * (c 30 5)) + (2 : Int32)) 1200) (lt (su c6 39 ((((3 : Int32) * (c 30 5)) + (2 : Int32))).toNatClampNeg a7) (fun c7 =>
    m_make_L96 a1 a3 (c 30 5) (1 : Int32) (0 : Int32) (0 : Int32) c7)))))))))))))))

noncomputable def m_number (c : jS) (a1 : Int32) : Option (Int32 × jS) :=
  bd (m_make c (0 : Int32) a1 (-2 : Int32) (-2 : Int32) (-2 : Int32) (-2 : Int32) (-2 : Int32)) (fun r1 c2 =>
  some (r1, c2))

noncomputable def m_name (c : jS) (a1 : Int32) : Option (Int32 × jS) :=
  ob (m_isLetter c a1) (fun r1 =>
  if r1 = 0 then (
    some ((-1 : Int32), c))
  else (
    bd (m_make c (1 : Int32) (0 : Int32) a1 (-2 : Int32) (-2 : Int32) (-2 : Int32) (-2 : Int32)) (fun r2 c3 =>
    some (r2, c3))))

noncomputable def m_function (c : jS) (a1 : Int32) (a2 : Int32) (a3 : Int32) : Option (Int32 × jS) :=
  ob (m_isLetter c a1) (fun r1 =>
  if r1 = 0 then (
    some ((-1 : Int32), c))
  else (
    ob (m_isType c a2) (fun r2 =>
    if r2 = 0 then (
      some ((-1 : Int32), c))
    else (
      ob (m_isTerm c a3) (fun r3 =>
      if r3 = 0 then (
        some ((-1 : Int32), c))
      else (
        bd (m_make c (2 : Int32) (0 : Int32) a1 a2 a3 (-2 : Int32) (-2 : Int32)) (fun r4 c5 =>
        some (r4, c5))))))))

noncomputable def m_let (c : jS) (a1 : Int32) (a2 : Int32) (a3 : Int32) : Option (Int32 × jS) :=
  ob (m_isLetter c a1) (fun r1 =>
  if r1 = 0 then (
    some ((-1 : Int32), c))
  else (
    ob (m_isTerm c a2) (fun r2 =>
    if r2 = 0 then (
      some ((-1 : Int32), c))
    else (
      ob (m_isTerm c a3) (fun r3 =>
      if r3 = 0 then (
        some ((-1 : Int32), c))
      else (
        bd (m_make c (4 : Int32) (0 : Int32) a1 (-2 : Int32) a2 a3 (-2 : Int32)) (fun r4 c5 =>
        some (r4, c5))))))))

noncomputable def m_join_P46 (v1 : Int32) (v2 : Int32) (v3 : Int32) (v4 : Int32) (s0 : Int32) (c : jS) : Option (Int32 × jS) :=
  if s0 = 0 then (
    some ((-1 : Int32), c))
  else (
    if v1 = (6 : Int32) then (
      bd (m_make c v1 (0 : Int32) (-2 : Int32) (-2 : Int32) v2 v3 v4) (fun r4 c5 =>
      some (r4, c5)))
    else (
      bd (m_make c v1 (0 : Int32) (-2 : Int32) (-2 : Int32) v2 v3 (-2 : Int32)) (fun r2 c3 =>
      some (r2, c3))))
noncomputable def m_join_P45 (v1 : Int32) (v2 : Int32) (v3 : Int32) (v4 : Int32) (c : jS) : Option (Int32 × jS) :=
  m_join_P46 v1 v2 v3 v4 (0 : Int32) c
noncomputable def m_join_P25 (v1 : Int32) (v2 : Int32) (v3 : Int32) (v4 : Int32) (c : jS) : Option (Int32 × jS) :=
  ob (m_isTerm c v2) (fun r1 =>
  if r1 = 0 then (
    m_join_P45 v1 v2 v3 v4 c)
  else (
    ob (m_isTerm c v3) (fun r6 =>
    if r6 = 0 then (
      m_join_P45 v1 v2 v3 v4 c)
    else (
      m_join_P46 v1 v2 v3 v4 (1 : Int32) c))))
noncomputable def m_join (c : jS) (a1 : Int32) (a2 : Int32) (a3 : Int32) (a4 : Int32) : Option (Int32 × jS) :=
  if a1 = (3 : Int32) then (
    m_join_P25 a1 a2 a3 a4 c)
  else (
    if a1 = (5 : Int32) then (
      m_join_P25 a1 a2 a3 a4 c)
    else (
      if a1 = (6 : Int32) then (
        ob (m_isTerm c a4) (fun r7 =>
        if r7 = 0 then (
          m_join_P45 a1 a2 a3 a4 c)
        else (
          m_join_P25 a1 a2 a3 a4 c)))
      else (
        m_join_P45 a1 a2 a3 a4 c)))

noncomputable def m_told (c : jS) (a1 : Int32) (a2 : Int32) : Option Int64 :=
  ob (m_isTerm c a1) (fun r1 =>
  if r1 = 0 then (
    some (-1 : Int64))
  else (
    ob (m_in c a2 (0 : Int32) (8 : Int32)) (fun r2 =>
    if r2 = 0 then (
      some (-1 : Int64))
    else (
      if a2 = 0 then (
        gd (ix a1 400) (
        some (c 35 (a1).toNatClampNeg).toInt64))
      else (
      if a2 = 1 then (
        gd (ix a1 400) (
        some (c 40 (a1).toNatClampNeg).toInt64))
      else (
      if a2 = 2 then (
        gd (ix a1 400) (
        some (c 41 (a1).toNatClampNeg).toInt64))
      else (
      if a2 = 3 then (
        gd (ix a1 400) (
        some (c 36 (a1).toNatClampNeg).toInt64))
      else (
      if a2 = 4 then (
        gd (ix a1 400) (
        some (c 37 (a1).toNatClampNeg).toInt64))
      else (
      if a2 = 5 then (
        gd (ix a1 400) (
        some (c 38 (a1).toNatClampNeg).toInt64))
      else (
      ob (m_part c a1 (a2 - (6 : Int32))) (fun r3 =>
      some (r3.toInt64))))))))))))

noncomputable def m_free_S14 (v1 : Int32) (v2 : Int32) (v3 : Int32) (c : jS) : Option ((Int32 × Int32 × Int32) ⊕ Int32) :=
  if (26 : Int32) ≤ v3 then (
    some (Sum.inr (v2)))
  else (
    ob (m_isFree c v1 v3) (fun r2 =>
    if r2 = 0 then (
      some (Sum.inl (v1, (v2 + (0 : Int32)), (v3 + (1 : Int32)))))
    else (
      some (Sum.inl (v1, (v2 + ((1 : Int32) <<< (v3 &&& 31))), (v3 + (1 : Int32)))))))
noncomputable def m_free_L14 (v1 : Int32) (v2 : Int32) (v3 : Int32) (c : jS) : Option Int32 :=
  lp (fun s : (Int32 × Int32 × Int32) => m_free_S14 s.1 s.2.1 s.2.2 c) (v1, v2, v3)
noncomputable def m_free (c : jS) (a1 : Int32) : Option Int32 :=
  ob (m_isTerm c a1) (fun r1 =>
  if r1 = 0 then (
    some (-1 : Int32))
  else (
    m_free_L14 a1 (0 : Int32) (0 : Int32) c))

noncomputable def m_uses (c : jS) (a1 : Int32) (a2 : Int32) : Option Int32 :=
  ob (m_isTerm c a1) (fun r1 =>
  if r1 = 0 then (
    some (-1 : Int32))
  else (
    ob (m_isLetter c a2) (fun r2 =>
    if r2 = 0 then (
      some (-1 : Int32))
    else (
      ob (m_freeOf c a1 a2) (fun r3 =>
      some (r3))))))

noncomputable def m_push (c : jS) (a1 : Int32) : Option (Unit × jS) :=
  gd (ix (c 30 14) 90) (lt (su c 43 ((c 30 14)).toNatClampNeg a1) (fun c1 =>
  gd (ix (c1 30 14) 90) (lt (su c1 44 ((c1 30 14)).toNatClampNeg (0 : Int32)) (fun c2 =>
  gd (ix (c2 30 14) 90) (lt (su c2 45 ((c2 30 14)).toNatClampNeg (-2 : Int32)) (fun c3 =>
  gd (ix (c3 30 14) 90) (lt (su c3 46 ((c3 30 14)).toNatClampNeg (-2 : Int32)) (fun c4 =>
  gd (ix (c4 30 14) 90) (lt (su c4 47 ((c4 30 14)).toNatClampNeg (-2 : Int32)) (fun c5 =>
  lt (su c5 30 14 ((c5 30 14) + (1 : Int32))) (fun c6 =>
  some ((), c6))))))))))))

noncomputable def m_faults (c : jS) (a1 : Int32) (a2 : Int32) : Option (Unit × jS) :=
  lt (su c 30 24 a1) (fun c1 =>
  lt (su c1 30 25 a2) (fun c2 =>
  lt (su c2 30 22 (-2 : Int32)) (fun c3 =>
  some ((), c3))))

noncomputable def m_binds (c : jS) (a1 : Int32) (a2 : Int32) (a3 : Int32) : Option (Unit × jS) :=
  gd (ix a2 26) (
  gd (ix a1 90) (lt (su c 47 (a1).toNatClampNeg (c 50 (a2).toNatClampNeg)) (fun c1 =>
  gd (ix a2 26) (lt (su c1 50 (a2).toNatClampNeg a3) (fun c2 =>
  some ((), c2))))))

noncomputable def m_typeOfNumbers_P135 (v2 : Int32) (v4 : Int32) (c : jS) : Option (Unit × jS) :=
  if v4 = 0 then (
    ob (m_part c v2 (1 : Int32)) (fun r2 =>
    bd (m_faults c (3 : Int32) r2) (fun _ c3 =>
    some ((), c3))))
  else (
    ob (m_part c v2 (2 : Int32)) (fun r4 =>
    bd (m_faults c (3 : Int32) r4) (fun _ c5 =>
    some ((), c5))))
noncomputable def m_typeOfNumbers_P107 (v1 : Int32) (v2 : Int32) (v4 : Int32) (c : jS) : Option (Unit × jS) :=
  if v4 = 0 then (
    if (c 30 22) = 0 then (
      lt (su c 30 14 ((c 30 14) - (1 : Int32))) (fun c1 =>
      some ((), c1)))
    else (
      m_typeOfNumbers_P135 v2 v4 c))
  else (
    gd (ix v1 90) (
    if (c 30 22) = (c 46 (v1).toNatClampNeg) then (
      lt (su c 30 14 ((c 30 14) - (1 : Int32))) (fun c6 =>
      some ((), c6)))
    else (
      m_typeOfNumbers_P135 v2 v4 c)))
noncomputable def m_typeOfNumbers_P16 (v1 : Int32) (v2 : Int32) (v3 : Int32) (s0 : Int32) (c : jS) : Option (Unit × jS) :=
  if v3 = 0 then (
    ob (m_part c v2 (0 : Int32)) (fun r14 =>
    bd (m_push c r14) (fun _ c15 =>
    some ((), c15))))
  else (
    if v3 = (1 : Int32) then (
      if (c 30 22) = 0 then (
        ob (m_part c v2 (1 : Int32)) (fun r10 =>
        bd (m_push c r10) (fun _ c11 =>
        some ((), c11))))
      else (
        ob (m_part c v2 (0 : Int32)) (fun r12 =>
        bd (m_faults c (3 : Int32) r12) (fun _ c13 =>
        some ((), c13)))))
    else (
      if s0 = 0 then (
        m_typeOfNumbers_P107 v1 v2 s0 c)
      else (
        if v3 = (2 : Int32) then (
          gd (ix v1 90) (lt (su c 46 (v1).toNatClampNeg (c 30 22)) (fun c7 =>
          ob (m_part c7 v2 (2 : Int32)) (fun r8 =>
          bd (m_push c7 r8) (fun _ c9 =>
          some ((), c9))))))
        else (
          m_typeOfNumbers_P107 v1 v2 s0 c))))
noncomputable def m_typeOfNumbers (c : jS) (a1 : Int32) (a2 : Int32) (a3 : Int32) : Option (Unit × jS) :=
  gd (ix a2 400) (
  if (c 35 (a2).toNatClampNeg) = (6 : Int32) then (
    m_typeOfNumbers_P16 a1 a2 a3 (1 : Int32) c)
  else (
    m_typeOfNumbers_P16 a1 a2 a3 (0 : Int32) c))

noncomputable def m_typeOfCall (c : jS) (a1 : Int32) (a2 : Int32) (a3 : Int32) : Option (Unit × jS) :=
  if a3 = 0 then (
    ob (m_part c a2 (0 : Int32)) (fun r10 =>
    bd (m_push c r10) (fun _ c11 =>
    some ((), c11))))
  else (
    if a3 = (1 : Int32) then (
      gd (ix a1 90) (lt (su c 45 (a1).toNatClampNeg (c 30 22)) (fun c5 =>
      if (c5 30 22) = 0 then (
        ob (m_part c5 a2 (0 : Int32)) (fun r8 =>
        bd (m_faults c5 (2 : Int32) r8) (fun _ c9 =>
        some ((), c9))))
      else (
        ob (m_part c5 a2 (1 : Int32)) (fun r6 =>
        bd (m_push c5 r6) (fun _ c7 =>
        some ((), c7)))))))
    else (
      gd (ix a1 90) (
      gd (ix (c 45 (a1).toNatClampNeg) 40) (
      if (c 30 22) = (c 31 ((c 45 (a1).toNatClampNeg)).toNatClampNeg) then (
        gd (ix a1 90) (
        gd (ix (c 45 (a1).toNatClampNeg) 40) (
        lt (su c 30 22 (c 32 ((c 45 (a1).toNatClampNeg)).toNatClampNeg)) (fun c1 =>
        lt (su c1 30 14 ((c1 30 14) - (1 : Int32))) (fun c2 =>
        some ((), c2))))))
      else (
        ob (m_part c a2 (1 : Int32)) (fun r3 =>
        bd (m_faults c (3 : Int32) r3) (fun _ c4 =>
        some ((), c4))))))))

noncomputable def m_typeOfBinder_P83 (v2 : Int32) (v4 : Int32) (s1 : Int32) (s2 : Int32) (s3 : Int32) (c : jS) : Option (Unit × jS) :=
  bd (m_binds c s1 s2 s3) (fun _ c8 =>
  if v4 = 0 then (
    ob (m_part c8 v2 (0 : Int32)) (fun r9 =>
    bd (m_push c8 r9) (fun _ c10 =>
    some ((), c10))))
  else (
    ob (m_part c8 v2 (1 : Int32)) (fun r11 =>
    bd (m_push c8 r11) (fun _ c12 =>
    some ((), c12)))))
noncomputable def m_typeOfBinder_P58 (v1 : Int32) (v2 : Int32) (v4 : Int32) (v5 : Int32) (s0 : Int32) (s1 : Int32) (c : jS) : Option (Unit × jS) :=
  if s0 = s1 then (
    if v4 = 0 then (
      gd (ix v2 400) (
      m_typeOfBinder_P83 v2 v4 v1 v5 (c 38 (v2).toNatClampNeg) c))
    else (
      m_typeOfBinder_P83 v2 v4 v1 v5 (c 30 22) c))
  else (
    gd (ix v1 90) (
    gd (ix v5 26) (lt (su c 50 (v5).toNatClampNeg (c 47 (v1).toNatClampNeg)) (fun c1 =>
    if v4 = 0 then (
      gd (ix v2 400) (
      bd (m_arrowOf c1 (c1 38 (v2).toNatClampNeg) (c1 30 22)) (fun r2 c3 =>
      lt (su c3 30 22 r2) (fun c4 =>
      lt (su c4 30 14 ((c4 30 14) - (1 : Int32))) (fun c5 =>
      some ((), c5))))))
    else (
      lt (su c1 30 22 (c1 30 22)) (fun c6 =>
      lt (su c6 30 14 ((c6 30 14) - (1 : Int32))) (fun c7 =>
      some ((), c7))))))))
noncomputable def m_typeOfBinder_P47 (v1 : Int32) (v2 : Int32) (v3 : Int32) (v4 : Int32) (v5 : Int32) (c : jS) : Option (Unit × jS) :=
  if v4 = 0 then (
    m_typeOfBinder_P58 v1 v2 v4 v5 v3 (0 : Int32) c)
  else (
    m_typeOfBinder_P58 v1 v2 v4 v5 v3 (1 : Int32) c)
noncomputable def m_typeOfBinder_P15 (v1 : Int32) (v2 : Int32) (v3 : Int32) (s0 : Int32) (c : jS) : Option (Unit × jS) :=
  gd (ix v2 400) (
  if s0 = 0 then (
    m_typeOfBinder_P47 v1 v2 v3 s0 (c 37 (v2).toNatClampNeg) c)
  else (
    if v3 = 0 then (
      ob (m_part c v2 (0 : Int32)) (fun r13 =>
      bd (m_push c r13) (fun _ c14 =>
      some ((), c14))))
    else (
      m_typeOfBinder_P47 v1 v2 v3 s0 (c 37 (v2).toNatClampNeg) c)))
noncomputable def m_typeOfBinder (c : jS) (a1 : Int32) (a2 : Int32) (a3 : Int32) : Option (Unit × jS) :=
  gd (ix a2 400) (
  if (c 35 (a2).toNatClampNeg) = (4 : Int32) then (
    m_typeOfBinder_P15 a1 a2 a3 (1 : Int32) c)
  else (
    m_typeOfBinder_P15 a1 a2 a3 (0 : Int32) c))

noncomputable def m_type_P285_67 (s1 : Int32) (c : jS) : Option ((Int32 × jS) ⊕ (Int32 × jS)) :=
  lt (su c 30 0 s1) (fun c7 =>
  if (c7 30 24) ≤ 0 then (
    some (Sum.inr ((c7 30 22), c7)))
  else (
    some (Sum.inr ((-2 : Int32), c7))))
noncomputable def m_type_P277_67 (v2 : Int32) (c : jS) : Option ((Int32 × jS) ⊕ (Int32 × jS)) :=
  m_type_P285_67 v2 c
noncomputable def m_type_P260_67 (v2 : Int32) (c : jS) : Option ((Int32 × jS) ⊕ (Int32 × jS)) :=
  if 0 < (c 30 24) then (
    m_type_P277_67 v2 c)
  else (
    if (c 30 22) = (-3 : Int32) then (
      m_type_P277_67 v2 c)
    else (
      m_type_P285_67 (c 30 0) c))
noncomputable def m_type_S67 (v2 : Int32) (c : jS) : Option ((Int32 × jS) ⊕ (Int32 × jS)) :=
  if (c 30 14) ≤ 0 then (
    m_type_P260_67 v2 c)
  else (
    if (c 30 24) = 0 then (
      if (c 30 22) = (-3 : Int32) then (
        m_type_P260_67 v2 c)
      else (
        gd (ix ((c 30 14) - (1 : Int32)) 90) (
        gd (ix ((c 30 14) - (1 : Int32)) 90) (
        gd (ix ((c 30 14) - (1 : Int32)) 90) (
        gd (ix ((c 30 14) - (1 : Int32)) 90) (lt (su c 44 (((c 30 14) - (1 : Int32))).toNatClampNeg ((c 44 (((c 30 14) - (1 : Int32))).toNatClampNeg) + (1 : Int32))) (fun c8 =>
        gd (ix (c 43 (((c 30 14) - (1 : Int32))).toNatClampNeg) 400) (
        if (c8 35 ((c 43 (((c 30 14) - (1 : Int32))).toNatClampNeg)).toNatClampNeg) = 0 then (
          lt (su c8 30 22 (0 : Int32)) (fun c16 =>
          lt (su c16 30 14 ((c16 30 14) - (1 : Int32))) (fun c17 =>
          some (Sum.inl (v2, c17)))))
        else (
          if (c8 35 ((c 43 (((c 30 14) - (1 : Int32))).toNatClampNeg)).toNatClampNeg) = (1 : Int32) then (
            gd (ix (c 43 (((c 30 14) - (1 : Int32))).toNatClampNeg) 400) (
            gd (ix (c8 37 ((c 43 (((c 30 14) - (1 : Int32))).toNatClampNeg)).toNatClampNeg) 26) (
            lt (su c8 30 22 (c8 50 ((c8 37 ((c 43 (((c 30 14) - (1 : Int32))).toNatClampNeg)).toNatClampNeg)).toNatClampNeg)) (fun c13 =>
            lt (su c13 30 14 ((c13 30 14) - (1 : Int32))) (fun c14 =>
            if (c14 30 22) = (-2 : Int32) then (
              bd (m_faults c14 (1 : Int32) (c 43 (((c 30 14) - (1 : Int32))).toNatClampNeg)) (fun _ c15 =>
              some (Sum.inl (v2, c15))))
            else (
              some (Sum.inl (v2, c14))))))))
          else (
            if (c8 35 ((c 43 (((c 30 14) - (1 : Int32))).toNatClampNeg)).toNatClampNeg) = (2 : Int32) then (
              bd (m_typeOfBinder c8 ((c 30 14) - (1 : Int32)) (c 43 (((c 30 14) - (1 : Int32))).toNatClampNeg) (c 44 (((c 30 14) - (1 : Int32))).toNatClampNeg)) (fun _ c9 =>
              some (Sum.inl (v2, c9))))
            else (
              if (c8 35 ((c 43 (((c 30 14) - (1 : Int32))).toNatClampNeg)).toNatClampNeg) = (4 : Int32) then (
                bd (m_typeOfBinder c8 ((c 30 14) - (1 : Int32)) (c 43 (((c 30 14) - (1 : Int32))).toNatClampNeg) (c 44 (((c 30 14) - (1 : Int32))).toNatClampNeg)) (fun _ c12 =>
                some (Sum.inl (v2, c12))))
              else (
                if (c8 35 ((c 43 (((c 30 14) - (1 : Int32))).toNatClampNeg)).toNatClampNeg) = (3 : Int32) then (
                  bd (m_typeOfCall c8 ((c 30 14) - (1 : Int32)) (c 43 (((c 30 14) - (1 : Int32))).toNatClampNeg) (c 44 (((c 30 14) - (1 : Int32))).toNatClampNeg)) (fun _ c11 =>
                  some (Sum.inl (v2, c11))))
                else (
                  bd (m_typeOfNumbers c8 ((c 30 14) - (1 : Int32)) (c 43 (((c 30 14) - (1 : Int32))).toNatClampNeg) (c 44 (((c 30 14) - (1 : Int32))).toNatClampNeg)) (fun _ c10 =>
                  some (Sum.inl (v2, c10))))))))))))))))
    else (
      m_type_P260_67 v2 c))
noncomputable def m_type_L67 (v2 : Int32) (c : jS) : Option (Int32 × jS) :=
  lp (fun s : (Int32 × jS) => m_type_S67 s.1 s.2) (v2, c)
noncomputable def m_type_S28 (v1 : Int32) (v2 : Int32) (v3 : Int32) (c : jS) : Option ((Int32 × Int32 × Int32 × jS) ⊕ (Int32 × jS)) :=
  if (26 : Int32) ≤ v3 then (
    lt (su c 30 14 (0 : Int32)) (fun c4 =>
    lt (su c4 30 22 (0 : Int32)) (fun c5 =>
    bd (m_push c5 v1) (fun _ c6 =>
    om (m_type_L67 v2 c6)))))
  else (
    gd (ix v3 26) (
    gd (ix v3 26) (lt (su c 50 (v3).toNatClampNeg (c 34 (v3).toNatClampNeg)) (fun c18 =>
    some (Sum.inl (v1, v2, (v3 + (1 : Int32)), c18))))))
noncomputable def m_type_L28 (v1 : Int32) (v2 : Int32) (v3 : Int32) (c : jS) : Option (Int32 × jS) :=
  lp (fun s : (Int32 × Int32 × Int32 × jS) => m_type_S28 s.1 s.2.1 s.2.2.1 s.2.2.2) (v1, v2, v3, c)
noncomputable def m_type (c : jS) (a1 : Int32) : Option (Int32 × jS) :=
  ob (m_isTerm c a1) (fun r1 =>
  if r1 = 0 then (
    some ((-1 : Int32), c))
  else (
    lt (su c 30 24 (0 : Int32)) (fun c2 =>
    lt (su c2 30 25 (-2 : Int32)) (fun c3 =>
    m_type_L28 a1 (c 30 0) (0 : Int32) c3))))

noncomputable def m_fault (c : jS) (a1 : Int32) : Option Int32 :=
  if a1 = 0 then (
    some (c 30 24))
  else (
    if a1 = (1 : Int32) then (
      some (c 30 25))
    else (
      some (-1 : Int32)))

noncomputable def m_isLikeHere (c : jS) (a1 : Int32) (a2 : Int32) : Option Int32 :=
  gd (ix a1 400) (
  gd (ix a2 400) (
  if (c 35 (a1).toNatClampNeg) = (c 35 (a2).toNatClampNeg) then (
    gd (ix a1 400) (
    if (c 35 (a1).toNatClampNeg) = (1 : Int32) then (
      gd (ix a1 400) (
      gd (ix a2 400) (
      gd (ix (c 37 (a1).toNatClampNeg) 26) (
      gd (ix (c 37 (a2).toNatClampNeg) 26) (
      if (c 51 ((c 37 (a1).toNatClampNeg)).toNatClampNeg) = (c 52 ((c 37 (a2).toNatClampNeg)).toNatClampNeg) then (
        gd (ix (c 37 (a1).toNatClampNeg) 26) (
        if (c 51 ((c 37 (a1).toNatClampNeg)).toNatClampNeg) = (-2 : Int32) then (
          if (c 37 (a1).toNatClampNeg) = (c 37 (a2).toNatClampNeg) then (
            some (1 : Int32))
          else (
            some (0 : Int32)))
        else (
          some (1 : Int32))))
      else (
        some (0 : Int32)))))))
    else (
      gd (ix a1 400) (
      if (c 35 (a1).toNatClampNeg) = 0 then (
        gd (ix a1 400) (
        gd (ix a2 400) (
        if (c 36 (a1).toNatClampNeg) = (c 36 (a2).toNatClampNeg) then (
          some (1 : Int32))
        else (
          some (0 : Int32)))))
      else (
        gd (ix a1 400) (
        if (c 35 (a1).toNatClampNeg) = (2 : Int32) then (
          gd (ix a1 400) (
          gd (ix a2 400) (
          if (c 38 (a1).toNatClampNeg) = (c 38 (a2).toNatClampNeg) then (
            some (1 : Int32))
          else (
            some (0 : Int32)))))
        else (
          some (1 : Int32))))))))
  else (
    some (0 : Int32))))

noncomputable def m_areAlike_P377_86 (v3 : Int32) (v5 : Int32) (v6 : Int32) (v7 : Int32) (c : jS) : Option ((Int32 × jS) ⊕ (Int32 × jS)) :=
  ob (m_part c v6 v5) (fun r7 =>
  bd (m_push c r7) (fun _ c8 =>
  ob (m_part c8 v7 v5) (fun r9 =>
  gd (ix ((c8 30 14) - (1 : Int32)) 90) (lt (su c8 49 (((c8 30 14) - (1 : Int32))).toNatClampNeg r9) (fun c10 =>
  some (Sum.inl (v3, c10)))))))
noncomputable def m_areAlike_P192_86 (v3 : Int32) (v4 : Int32) (v5 : Int32) (v6 : Int32) (v7 : Int32) (s0 : Int32) (c : jS) : Option ((Int32 × jS) ⊕ (Int32 × jS)) :=
  gd (ix v6 400) (
  ob (m_partsOf c (c 35 (v6).toNatClampNeg)) (fun r6 =>
  if v5 = r6 then (
    lt (su c 30 14 ((c 30 14) - (1 : Int32))) (fun c16 =>
    if s0 = 0 then (
      some (Sum.inl (v3, c16)))
    else (
      gd (ix v6 400) (
      gd (ix v4 90) (
      gd (ix (c16 37 (v6).toNatClampNeg) 26) (lt (su c16 51 ((c16 37 (v6).toNatClampNeg)).toNatClampNeg (c16 45 (v4).toNatClampNeg)) (fun c17 =>
      gd (ix v7 400) (
      gd (ix v4 90) (
      gd (ix (c17 37 (v7).toNatClampNeg) 26) (lt (su c17 52 ((c17 37 (v7).toNatClampNeg)).toNatClampNeg (c17 46 (v4).toNatClampNeg)) (fun c18 =>
      lt (su c18 30 28 ((c18 30 28) - (1 : Int32))) (fun c19 =>
      some (Sum.inl (v3, c19))))))))))))))
  else (
    if v3 = 0 then (
      some (Sum.inl (v3, c)))
    else (
      if s0 = 0 then (
        m_areAlike_P377_86 v3 v5 v6 v7 c)
      else (
        if v5 = (r6 - (1 : Int32)) then (
          gd (ix v6 400) (
          gd (ix (c 37 (v6).toNatClampNeg) 26) (
          gd (ix v4 90) (lt (su c 45 (v4).toNatClampNeg (c 51 ((c 37 (v6).toNatClampNeg)).toNatClampNeg)) (fun c11 =>
          gd (ix v7 400) (
          gd (ix (c11 37 (v7).toNatClampNeg) 26) (
          gd (ix v4 90) (lt (su c11 46 (v4).toNatClampNeg (c11 52 ((c11 37 (v7).toNatClampNeg)).toNatClampNeg)) (fun c12 =>
          gd (ix v6 400) (
          gd (ix (c12 37 (v6).toNatClampNeg) 26) (lt (su c12 51 ((c12 37 (v6).toNatClampNeg)).toNatClampNeg (c12 30 28)) (fun c13 =>
          gd (ix v7 400) (
          gd (ix (c13 37 (v7).toNatClampNeg) 26) (lt (su c13 52 ((c13 37 (v7).toNatClampNeg)).toNatClampNeg (c13 30 28)) (fun c14 =>
          lt (su c14 30 28 ((c14 30 28) + (1 : Int32))) (fun c15 =>
          m_areAlike_P377_86 v3 v5 v6 v7 c15))))))))))))))))
        else (
          m_areAlike_P377_86 v3 v5 v6 v7 c))))))
noncomputable def m_areAlike_P187_86 (v3 : Int32) (v4 : Int32) (v5 : Int32) (v6 : Int32) (v7 : Int32) (c : jS) : Option ((Int32 × jS) ⊕ (Int32 × jS)) :=
  m_areAlike_P192_86 v3 v4 v5 v6 v7 (1 : Int32) c
noncomputable def m_areAlike_P164_86 (v4 : Int32) (v5 : Int32) (v6 : Int32) (v7 : Int32) (s0 : Int32) (c : jS) : Option ((Int32 × jS) ⊕ (Int32 × jS)) :=
  gd (ix v6 400) (
  if (c 35 (v6).toNatClampNeg) = (2 : Int32) then (
    m_areAlike_P187_86 s0 v4 v5 v6 v7 c)
  else (
    gd (ix v6 400) (
    if (c 35 (v6).toNatClampNeg) = (4 : Int32) then (
      m_areAlike_P187_86 s0 v4 v5 v6 v7 c)
    else (
      m_areAlike_P192_86 s0 v4 v5 v6 v7 (0 : Int32) c))))
noncomputable def m_areAlike_P159_86 (v4 : Int32) (v5 : Int32) (v6 : Int32) (v7 : Int32) (c : jS) : Option ((Int32 × jS) ⊕ (Int32 × jS)) :=
  m_areAlike_P164_86 v4 v5 v6 v7 (1 : Int32) c
noncomputable def m_areAlike_S86 (v3 : Int32) (c : jS) : Option ((Int32 × jS) ⊕ (Int32 × jS)) :=
  if (c 30 14) ≤ 0 then (
    gd (bz v3) (some (Sum.inr (v3, c))))
  else (
    if v3 = 0 then (
      gd (bz v3) (some (Sum.inr (v3, c))))
    else (
      gd (ix ((c 30 14) - (1 : Int32)) 90) (
      gd (ix ((c 30 14) - (1 : Int32)) 90) (
      gd (ix ((c 30 14) - (1 : Int32)) 90) (
      gd (ix ((c 30 14) - (1 : Int32)) 90) (
      gd (ix ((c 30 14) - (1 : Int32)) 90) (lt (su c 44 (((c 30 14) - (1 : Int32))).toNatClampNeg ((c 44 (((c 30 14) - (1 : Int32))).toNatClampNeg) + (1 : Int32))) (fun c5 =>
      if 0 < (c 44 (((c 30 14) - (1 : Int32))).toNatClampNeg) then (
        m_areAlike_P159_86 ((c 30 14) - (1 : Int32)) (c 44 (((c 30 14) - (1 : Int32))).toNatClampNeg) (c 43 (((c 30 14) - (1 : Int32))).toNatClampNeg) (c 49 (((c 30 14) - (1 : Int32))).toNatClampNeg) c5)
      else (
        ob (m_isLikeHere c5 (c 43 (((c 30 14) - (1 : Int32))).toNatClampNeg) (c 49 (((c 30 14) - (1 : Int32))).toNatClampNeg)) (fun r20 =>
        if r20 = 0 then (
          m_areAlike_P164_86 ((c 30 14) - (1 : Int32)) (c 44 (((c 30 14) - (1 : Int32))).toNatClampNeg) (c 43 (((c 30 14) - (1 : Int32))).toNatClampNeg) (c 49 (((c 30 14) - (1 : Int32))).toNatClampNeg) (0 : Int32) c5)
        else (
          m_areAlike_P159_86 ((c 30 14) - (1 : Int32)) (c 44 (((c 30 14) - (1 : Int32))).toNatClampNeg) (c 43 (((c 30 14) - (1 : Int32))).toNatClampNeg) (c 49 (((c 30 14) - (1 : Int32))).toNatClampNeg) c5)))))))))))
noncomputable def m_areAlike_L86 (v3 : Int32) (c : jS) : Option (Int32 × jS) :=
  lp (fun s : (Int32 × jS) => m_areAlike_S86 s.1 s.2) (v3, c)
noncomputable def m_areAlike_S34 (v1 : Int32) (v2 : Int32) (v3 : Int32) (c : jS) : Option ((Int32 × Int32 × Int32 × jS) ⊕ (Int32 × jS)) :=
  if (26 : Int32) ≤ v3 then (
    lt (su c 30 28 (0 : Int32)) (fun c1 =>
    lt (su c1 30 14 (0 : Int32)) (fun c2 =>
    bd (m_push c2 v1) (fun _ c3 =>
    gd (ix (0 : Int32) 90) (lt (su c3 49 ((0 : Int32)).toNatClampNeg v2) (fun c4 =>
    om (m_areAlike_L86 (1 : Int32) c4)))))))
  else (
    gd (ix v3 26) (lt (su c 51 (v3).toNatClampNeg (-2 : Int32)) (fun c21 =>
    gd (ix v3 26) (lt (su c21 52 (v3).toNatClampNeg (-2 : Int32)) (fun c22 =>
    some (Sum.inl (v1, v2, (v3 + (1 : Int32)), c22)))))))
noncomputable def m_areAlike_L34 (v1 : Int32) (v2 : Int32) (v3 : Int32) (c : jS) : Option (Int32 × jS) :=
  lp (fun s : (Int32 × Int32 × Int32 × jS) => m_areAlike_S34 s.1 s.2.1 s.2.2.1 s.2.2.2) (v1, v2, v3, c)
noncomputable def m_areAlike (c : jS) (a1 : Int32) (a2 : Int32) : Option (Int32 × jS) :=
  gd (ix a1 400) (
  gd (ix a2 400) (
  if (c 40 (a1).toNatClampNeg) = (c 40 (a2).toNatClampNeg) then (
    gd (ix a1 400) (
    gd (ix a2 400) (
    if (c 41 (a1).toNatClampNeg) = (c 41 (a2).toNatClampNeg) then (
      m_areAlike_L34 a1 a2 (0 : Int32) c)
    else (
      some ((0 : Int32), c)))))
  else (
    some ((0 : Int32), c))))

noncomputable def m_alike (c : jS) (a1 : Int32) (a2 : Int32) : Option (Int32 × jS) :=
  ob (m_isTerm c a1) (fun r1 =>
  if r1 = 0 then (
    some ((-1 : Int32), c))
  else (
    ob (m_isTerm c a2) (fun r2 =>
    if r2 = 0 then (
      some ((-1 : Int32), c))
    else (
      bd (m_areAlike c a1 a2) (fun r3 c4 =>
      if r3 = 0 then (
        some ((0 : Int32), c4))
      else (
        some ((1 : Int32), c4)))))))

noncomputable def m_least_S12 (v1 : Int32) (v2 : Int32) (c : jS) : Option ((Int32 × Int32 × jS) ⊕ (Int32 × jS)) :=
  bd (m_areAlike c v1 v2) (fun r2 c3 =>
  if r2 = 0 then (
    some (Sum.inl (v1, (v2 + (1 : Int32)), c3)))
  else (
    some (Sum.inr (v2, c3))))
noncomputable def m_least_L12 (v1 : Int32) (v2 : Int32) (c : jS) : Option (Int32 × jS) :=
  lp (fun s : (Int32 × Int32 × jS) => m_least_S12 s.1 s.2.1 s.2.2) (v1, v2, c)
noncomputable def m_least (c : jS) (a1 : Int32) : Option (Int32 × jS) :=
  ob (m_isTerm c a1) (fun r1 =>
  if r1 = 0 then (
    some ((-1 : Int32), c))
  else (
    m_least_L12 a1 (0 : Int32) c))

noncomputable def m_pushPut (c : jS) (a1 : Int32) (a2 : Int32) (a3 : Int32) : Option (Unit × jS) :=
  bd (m_push c a1) (fun _ c1 =>
  gd (ix ((c1 30 14) - (1 : Int32)) 90) (lt (su c1 48 (((c1 30 14) - (1 : Int32))).toNatClampNeg a2) (fun c2 =>
  gd (ix ((c2 30 14) - (1 : Int32)) 90) (lt (su c2 49 (((c2 30 14) - (1 : Int32))).toNatClampNeg a3) (fun c3 =>
  some ((), c3))))))

noncomputable def m_newLetter_P32_2 (v3 : Int32) (c : jS) : Option ((Int32 × Int32 × Int32) ⊕ Int32) :=
  if (26 : Int32) ≤ v3 then (
    some (Sum.inr (-3 : Int32)))
  else (
    some (Sum.inr (v3)))
noncomputable def m_newLetter_S2 (v1 : Int32) (v2 : Int32) (v3 : Int32) (c : jS) : Option ((Int32 × Int32 × Int32) ⊕ Int32) :=
  if (26 : Int32) ≤ v3 then (
    m_newLetter_P32_2 v3 c)
  else (
    ob (m_isFree c v1 v3) (fun r1 =>
    if r1 = 0 then (
      ob (m_isFree c v2 v3) (fun r2 =>
      if r2 = 0 then (
        m_newLetter_P32_2 v3 c)
      else (
        some (Sum.inl (v1, v2, (v3 + (1 : Int32)))))))
    else (
      some (Sum.inl (v1, v2, (v3 + (1 : Int32)))))))
noncomputable def m_newLetter_L2 (v1 : Int32) (v2 : Int32) (v3 : Int32) (c : jS) : Option Int32 :=
  lp (fun s : (Int32 × Int32 × Int32) => m_newLetter_S2 s.1 s.2.1 s.2.2 c) (v1, v2, v3)
noncomputable def m_newLetter (c : jS) (a1 : Int32) (a2 : Int32) : Option Int32 :=
  m_newLetter_L2 a1 a2 (0 : Int32) c

noncomputable def m_remade_P47 (v1 : Int32) (v2 : Int32) (v3 : Int32) (v4 : Int32) (v5 : Int32) (s0 : Int32) (c : jS) : Option (Int32 × jS) :=
  if s0 = 0 then (
    gd (ix v1 400) (
    gd (ix v1 400) (
    bd (m_make c (c 35 (v1).toNatClampNeg) (0 : Int32) v2 (c 38 (v1).toNatClampNeg) v3 v4 v5) (fun r1 c2 =>
    some (r1, c2)))))
  else (
    some (v1, c))
noncomputable def m_remade_P46 (v1 : Int32) (v2 : Int32) (v3 : Int32) (v4 : Int32) (v5 : Int32) (c : jS) : Option (Int32 × jS) :=
  m_remade_P47 v1 v2 v3 v4 v5 (0 : Int32) c
noncomputable def m_remade (c : jS) (a1 : Int32) (a2 : Int32) (a3 : Int32) (a4 : Int32) (a5 : Int32) : Option (Int32 × jS) :=
  gd (ix a1 400) (
  if a2 = (c 37 (a1).toNatClampNeg) then (
    ob (m_part c a1 (0 : Int32)) (fun r3 =>
    if a3 = r3 then (
      ob (m_part c a1 (1 : Int32)) (fun r4 =>
      if a4 = r4 then (
        ob (m_part c a1 (2 : Int32)) (fun r5 =>
        if a5 = r5 then (
          m_remade_P47 a1 a2 a3 a4 a5 (1 : Int32) c)
        else (
          m_remade_P46 a1 a2 a3 a4 a5 c)))
      else (
        m_remade_P46 a1 a2 a3 a4 a5 c)))
    else (
      m_remade_P46 a1 a2 a3 a4 a5 c)))
  else (
    m_remade_P46 a1 a2 a3 a4 a5 c))

noncomputable def m_putBody_P181 (v1 : Int32) (v7 : Int32) (v8 : Int32) (v9 : Int32) (s1 : Int32) (c : jS) : Option (Unit × jS) :=
  lt (su c 30 22 s1) (fun c17 =>
  gd (ix v1 90) (lt (su c17 46 (v1).toNatClampNeg v9) (fun c18 =>
  if (c18 30 22) = (-3 : Int32) then (
    some ((), c18))
  else (
    gd (ix v1 90) (lt (su c18 44 (v1).toNatClampNeg (12 : Int32)) (fun c19 =>
    bd (m_pushPut c19 v7 v8 (c19 30 22)) (fun _ c20 =>
    some ((), c20))))))))
noncomputable def m_putBody_P110 (v1 : Int32) (v4 : Int32) (v5 : Int32) (v7 : Int32) (v8 : Int32) (c : jS) : Option (Unit × jS) :=
  ob (m_isFree c v5 v8) (fun r13 =>
  if r13 = 0 then (
    gd (ix v1 90) (lt (su c 44 (v1).toNatClampNeg (13 : Int32)) (fun c21 =>
    bd (m_pushPut c21 v7 v4 v5) (fun _ c22 =>
    some ((), c22)))))
  else (
    ob (m_newLetter c v7 v5) (fun r14 =>
    if r14 = (-3 : Int32) then (
      m_putBody_P181 v1 v7 v8 r14 (-3 : Int32) c)
    else (
      bd (m_make c (1 : Int32) (0 : Int32) r14 (-2 : Int32) (-2 : Int32) (-2 : Int32) (-2 : Int32)) (fun r15 c16 =>
      m_putBody_P181 v1 v7 v8 r14 r15 c16)))))
noncomputable def m_putBody_P93 (v1 : Int32) (v7 : Int32) (c : jS) : Option (Unit × jS) :=
  gd (ix v1 90) (lt (su c 44 (v1).toNatClampNeg (13 : Int32)) (fun c23 =>
  lt (su c23 30 22 v7) (fun c24 =>
  some ((), c24))))
noncomputable def m_putBody_P45 (v1 : Int32) (v2 : Int32) (v3 : Int32) (v4 : Int32) (v5 : Int32) (v6 : Int32) (s1 : Int32) (s2 : Int32) (c : jS) : Option (Unit × jS) :=
  ob (m_part c s1 s2) (fun r1 =>
  gd (ix v2 400) (
  if v3 = 0 then (
    gd (ix v1 90) (lt (su c 46 (v1).toNatClampNeg (c 37 (v2).toNatClampNeg)) (fun c12 =>
    if v6 = 0 then (
      m_putBody_P110 v1 v4 v5 r1 (c 37 (v2).toNatClampNeg) c12)
    else (
      if (c 37 (v2).toNatClampNeg) = v4 then (
        m_putBody_P93 v1 r1 c12)
      else (
        ob (m_isFree c12 r1 v4) (fun r25 =>
        if r25 = 0 then (
          m_putBody_P93 v1 r1 c12)
        else (
          m_putBody_P110 v1 v4 v5 r1 (c 37 (v2).toNatClampNeg) c12)))))))
  else (
    if v3 = (2 : Int32) then (
      gd (ix v1 90) (lt (su c 44 (v1).toNatClampNeg (13 : Int32)) (fun c10 =>
      bd (m_pushPut c10 (c10 30 22) v4 v5) (fun _ c11 =>
      some ((), c11)))))
    else (
      if v6 = 0 then (
        gd (ix v1 90) (
        bd (m_remade c v2 (c 46 (v1).toNatClampNeg) (c 30 22) (-2 : Int32) (-2 : Int32)) (fun r2 c3 =>
        lt (su c3 30 22 r2) (fun c4 =>
        lt (su c4 30 14 ((c4 30 14) - (1 : Int32))) (fun c5 =>
        some ((), c5))))))
      else (
        gd (ix v1 90) (
        gd (ix v1 90) (
        bd (m_remade c v2 (c 46 (v1).toNatClampNeg) (c 45 (v1).toNatClampNeg) (c 30 22) (-2 : Int32)) (fun r6 c7 =>
        lt (su c7 30 22 r6) (fun c8 =>
        lt (su c8 30 14 ((c8 30 14) - (1 : Int32))) (fun c9 =>
        some ((), c9)))))))))))
noncomputable def m_putBody_P31 (v1 : Int32) (v2 : Int32) (v3 : Int32) (v4 : Int32) (v5 : Int32) (s0 : Int32) (c : jS) : Option (Unit × jS) :=
  if s0 = 0 then (
    m_putBody_P45 v1 v2 v3 v4 v5 s0 v2 (0 : Int32) c)
  else (
    m_putBody_P45 v1 v2 v3 v4 v5 s0 v2 (1 : Int32) c)
noncomputable def m_putBody (c : jS) (a1 : Int32) (a2 : Int32) (a3 : Int32) : Option (Unit × jS) :=
  gd (ix a1 90) (
  gd (ix a1 90) (
  gd (ix a2 400) (
  if (c 35 (a2).toNatClampNeg) = (4 : Int32) then (
    m_putBody_P31 a1 a2 a3 (c 48 (a1).toNatClampNeg) (c 49 (a1).toNatClampNeg) (1 : Int32) c)
  else (
    m_putBody_P31 a1 a2 a3 (c 48 (a1).toNatClampNeg) (c 49 (a1).toNatClampNeg) (0 : Int32) c))))

noncomputable def m_putParts_P62 (v1 : Int32) (v2 : Int32) (v3 : Int32) (v4 : Int32) (c : jS) : Option (Unit × jS) :=
  if v4 ≤ v3 then (
    gd (ix v2 400) (
    gd (ix v1 90) (
    gd (ix v1 90) (
    gd (ix v1 90) (
    bd (m_remade c v2 (c 37 (v2).toNatClampNeg) (c 45 (v1).toNatClampNeg) (c 46 (v1).toNatClampNeg) (c 47 (v1).toNatClampNeg)) (fun r2 c3 =>
    lt (su c3 30 22 r2) (fun c4 =>
    lt (su c4 30 14 ((c4 30 14) - (1 : Int32))) (fun c5 =>
    some ((), c5)))))))))
  else (
    ob (m_part c v2 v3) (fun r6 =>
    gd (ix v1 90) (
    gd (ix v1 90) (
    bd (m_pushPut c r6 (c 48 (v1).toNatClampNeg) (c 49 (v1).toNatClampNeg)) (fun _ c7 =>
    some ((), c7))))))
noncomputable def m_putParts (c : jS) (a1 : Int32) (a2 : Int32) (a3 : Int32) : Option (Unit × jS) :=
  gd (ix a2 400) (
  ob (m_partsOf c (c 35 (a2).toNatClampNeg)) (fun r1 =>
  if a3 = (1 : Int32) then (
    gd (ix a1 90) (lt (su c 45 (a1).toNatClampNeg (c 30 22)) (fun c10 =>
    m_putParts_P62 a1 a2 a3 r1 c10)))
  else (
    if a3 = (2 : Int32) then (
      gd (ix a1 90) (lt (su c 46 (a1).toNatClampNeg (c 30 22)) (fun c9 =>
      m_putParts_P62 a1 a2 a3 r1 c9)))
    else (
      if a3 = (3 : Int32) then (
        gd (ix a1 90) (lt (su c 47 (a1).toNatClampNeg (c 30 22)) (fun c8 =>
        m_putParts_P62 a1 a2 a3 r1 c8)))
      else (
        m_putParts_P62 a1 a2 a3 r1 c)))))

noncomputable def m_putTurn_P197 (v1 : Int32) (v2 : Int32) (v3 : Int32) (s1 : Int32) (s2 : Int32) (c : jS) : Option (Unit × jS) :=
  gd (ix s1 90) (lt (su c 45 (s1).toNatClampNeg s2) (fun c3 =>
  if v3 ≤ (9 : Int32) then (
    bd (m_putBody c3 v1 v2 (0 : Int32)) (fun _ c4 =>
    some ((), c4)))
  else (
    bd (m_putBody c3 v1 v2 (v3 - (10 : Int32))) (fun _ c5 =>
    some ((), c5)))))
noncomputable def m_putTurn_P168 (v1 : Int32) (v2 : Int32) (v3 : Int32) (v4 : Int32) (c : jS) : Option (Unit × jS) :=
  if v4 = (4 : Int32) then (
    if v3 = (1 : Int32) then (
      m_putTurn_P197 v1 v2 v3 v1 (c 30 22) c)
    else (
      gd (ix v1 90) (
      m_putTurn_P197 v1 v2 v3 v1 (c 45 (v1).toNatClampNeg) c)))
  else (
    bd (m_putParts c v1 v2 v3) (fun _ c2 =>
    some ((), c2)))
noncomputable def m_putTurn_P75 (v1 : Int32) (v2 : Int32) (v3 : Int32) (v4 : Int32) (c : jS) : Option (Unit × jS) :=
  if v4 = (1 : Int32) then (
    gd (ix v1 90) (
    lt (su c 30 22 (c 49 (v1).toNatClampNeg)) (fun c10 =>
    lt (su c10 30 14 ((c10 30 14) - (1 : Int32))) (fun c11 =>
    some ((), c11)))))
  else (
    if v4 = (2 : Int32) then (
      if v3 ≤ (9 : Int32) then (
        bd (m_putBody c v1 v2 (0 : Int32)) (fun _ c8 =>
        some ((), c8)))
      else (
        bd (m_putBody c v1 v2 (v3 - (10 : Int32))) (fun _ c9 =>
        some ((), c9))))
    else (
      if v4 = (4 : Int32) then (
        if v3 = 0 then (
          ob (m_part c v2 (0 : Int32)) (fun r6 =>
          gd (ix v1 90) (
          gd (ix v1 90) (
          bd (m_pushPut c r6 (c 48 (v1).toNatClampNeg) (c 49 (v1).toNatClampNeg)) (fun _ c7 =>
          some ((), c7))))))
        else (
          m_putTurn_P168 v1 v2 v3 v4 c))
      else (
        m_putTurn_P168 v1 v2 v3 v4 c)))
noncomputable def m_putTurn (c : jS) : Option (Unit × jS) :=
  gd (ix ((c 30 14) - (1 : Int32)) 90) (
  gd (ix ((c 30 14) - (1 : Int32)) 90) (
  gd (ix ((c 30 14) - (1 : Int32)) 90) (
  gd (ix ((c 30 14) - (1 : Int32)) 90) (lt (su c 44 (((c 30 14) - (1 : Int32))).toNatClampNeg ((c 44 (((c 30 14) - (1 : Int32))).toNatClampNeg) + (1 : Int32))) (fun c1 =>
  gd (ix (c 43 (((c 30 14) - (1 : Int32))).toNatClampNeg) 400) (
  if (c 44 (((c 30 14) - (1 : Int32))).toNatClampNeg) = 0 then (
    gd (ix ((c 30 14) - (1 : Int32)) 90) (
    ob (m_isFree c1 (c 43 (((c 30 14) - (1 : Int32))).toNatClampNeg) (c1 48 (((c 30 14) - (1 : Int32))).toNatClampNeg)) (fun r12 =>
    if r12 = 0 then (
      lt (su c1 30 22 (c 43 (((c 30 14) - (1 : Int32))).toNatClampNeg)) (fun c13 =>
      lt (su c13 30 14 ((c13 30 14) - (1 : Int32))) (fun c14 =>
      some ((), c14))))
    else (
      m_putTurn_P75 ((c 30 14) - (1 : Int32)) (c 43 (((c 30 14) - (1 : Int32))).toNatClampNeg) (c 44 (((c 30 14) - (1 : Int32))).toNatClampNeg) (c1 35 ((c 43 (((c 30 14) - (1 : Int32))).toNatClampNeg)).toNatClampNeg) c1))))
  else (
    m_putTurn_P75 ((c 30 14) - (1 : Int32)) (c 43 (((c 30 14) - (1 : Int32))).toNatClampNeg) (c 44 (((c 30 14) - (1 : Int32))).toNatClampNeg) (c1 35 ((c 43 (((c 30 14) - (1 : Int32))).toNatClampNeg)).toNatClampNeg) c1)))))))

noncomputable def m_putOf_P46_23 (v4 : Int32) (c : jS) : Option ((Int32 × jS) ⊕ (Int32 × jS)) :=
  if (c 30 22) = (-3 : Int32) then (
    lt (su c 30 5 v4) (fun c5 =>
    some (Sum.inr ((c5 30 22), c5))))
  else (
    lt (su c 30 5 (c 30 5)) (fun c4 =>
    some (Sum.inr ((c4 30 22), c4))))
noncomputable def m_putOf_S23 (v4 : Int32) (c : jS) : Option ((Int32 × jS) ⊕ (Int32 × jS)) :=
  if (c 30 14) ≤ 0 then (
    m_putOf_P46_23 v4 c)
  else (
    if (c 30 22) = (-3 : Int32) then (
      m_putOf_P46_23 v4 c)
    else (
      bd (m_putTurn c) (fun _ c6 =>
      some (Sum.inl (v4, c6)))))
noncomputable def m_putOf_L23 (v4 : Int32) (c : jS) : Option (Int32 × jS) :=
  lp (fun s : (Int32 × jS) => m_putOf_S23 s.1 s.2) (v4, c)
noncomputable def m_putOf (c : jS) (a1 : Int32) (a2 : Int32) (a3 : Int32) : Option (Int32 × jS) :=
  lt (su c 30 14 (0 : Int32)) (fun c1 =>
  lt (su c1 30 22 a1) (fun c2 =>
  bd (m_pushPut c2 a1 a2 a3) (fun _ c3 =>
  m_putOf_L23 (c 30 5) c3)))

noncomputable def m_put (c : jS) (a1 : Int32) (a2 : Int32) (a3 : Int32) : Option (Int32 × jS) :=
  ob (m_isTerm c a1) (fun r1 =>
  if r1 = 0 then (
    some ((-1 : Int32), c))
  else (
    ob (m_isLetter c a2) (fun r2 =>
    if r2 = 0 then (
      some ((-1 : Int32), c))
    else (
      ob (m_isTerm c a3) (fun r3 =>
      if r3 = 0 then (
        some ((-1 : Int32), c))
      else (
        bd (m_putOf c a1 a2 a3) (fun r4 c5 =>
        some (r4, c5))))))))

noncomputable def m_partToStep (c : jS) (a1 : Int32) : Option Int32 :=
  gd (ix a1 400) (
  if (c 35 (a1).toNatClampNeg) = 3 then (
    ob (m_part c a1 (0 : Int32)) (fun r1 =>
    gd (ix r1 400) (
    if (c 35 (r1).toNatClampNeg) = (2 : Int32) then (
      some (-2 : Int32))
    else (
      some (0 : Int32)))))
  else (
  if (c 35 (a1).toNatClampNeg) = 5 then (
    ob (m_part c a1 (0 : Int32)) (fun r2 =>
    gd (ix r2 400) (
    if (c 35 (r2).toNatClampNeg) = 0 then (
      ob (m_part c a1 (1 : Int32)) (fun r3 =>
      gd (ix r3 400) (
      if (c 35 (r3).toNatClampNeg) = 0 then (
        some (-2 : Int32))
      else (
        some (1 : Int32)))))
    else (
      some (0 : Int32)))))
  else (
  if (c 35 (a1).toNatClampNeg) = 6 then (
    ob (m_part c a1 (0 : Int32)) (fun r4 =>
    gd (ix r4 400) (
    if (c 35 (r4).toNatClampNeg) = 0 then (
      some (-2 : Int32))
    else (
      some (0 : Int32)))))
  else (
  some (-2 : Int32)))))

noncomputable def m_stepHere (c : jS) (a1 : Int32) : Option (Int32 × jS) :=
  ob (m_part c a1 (0 : Int32)) (fun r1 =>
  gd (ix a1 400) (
  if (c 35 (a1).toNatClampNeg) = 3 then (
    ob (m_part c r1 (0 : Int32)) (fun r2 =>
    gd (ix r1 400) (
    ob (m_part c a1 (1 : Int32)) (fun r3 =>
    bd (m_putOf c r2 (c 37 (r1).toNatClampNeg) r3) (fun r4 c5 =>
    some (r4, c5))))))
  else (
  if (c 35 (a1).toNatClampNeg) = 4 then (
    ob (m_part c a1 (1 : Int32)) (fun r6 =>
    gd (ix a1 400) (
    bd (m_putOf c r6 (c 37 (a1).toNatClampNeg) r1) (fun r7 c8 =>
    some (r7, c8)))))
  else (
  if (c 35 (a1).toNatClampNeg) = 5 then (
    gd (ix r1 400) (
    ob (m_part c a1 (1 : Int32)) (fun r9 =>
    gd (ix r9 400) (
    bd (m_make c (0 : Int32) ((c 36 (r1).toNatClampNeg) + (c 36 (r9).toNatClampNeg)) (-2 : Int32) (-2 : Int32) (-2 : Int32) (-2 : Int32) (-2 : Int32)) (fun r10 c11 =>
    some (r10, c11))))))
  else (
  if (c 35 (a1).toNatClampNeg) = 6 then (
    gd (ix r1 400) (
    if (c 36 (r1).toNatClampNeg) = 0 then (
      ob (m_part c a1 (2 : Int32)) (fun r12 =>
      some (r12, c)))
    else (
      ob (m_part c a1 (1 : Int32)) (fun r13 =>
      some (r13, c)))))
  else (
  some ((-2 : Int32), c)))))))

noncomputable def m_stepOf_P174_73 (v2 : Int32) (v6 : Int32) (c : jS) : Option ((Int32 × Int32 × Int32 × jS) ⊕ (Int32 × jS)) :=
  if 0 ≤ v6 then (
    lt (su c 30 5 (c 30 5)) (fun c4 =>
    some (Sum.inr (v6, c4))))
  else (
    lt (su c 30 5 v2) (fun c5 =>
    some (Sum.inr (v6, c5))))
noncomputable def m_stepOf_P141_73 (v2 : Int32) (v3 : Int32) (v4 : Int32) (v5 : Int32) (v6 : Int32) (s1 : Int32) (s2 : Int32) (s3 : Int32) (s4 : Int32) (s5 : Int32) (c : jS) : Option ((Int32 × Int32 × Int32 × jS) ⊕ (Int32 × jS)) :=
  if v5 = (1 : Int32) then (
    ob (m_part c v4 (2 : Int32)) (fun r11 =>
    bd (m_make c s1 s2 s3 s4 s5 v6 r11) (fun r12 c13 =>
    some (Sum.inl (v2, v3, r12, c13)))))
  else (
    ob (m_part c v4 (1 : Int32)) (fun r7 =>
    ob (m_part c v4 (2 : Int32)) (fun r8 =>
    bd (m_make c s1 s2 s3 s4 s5 r7 r8) (fun r9 c10 =>
    some (Sum.inl (v2, v3, r9, c10))))))
noncomputable def m_stepOf_S73 (v2 : Int32) (v3 : Int32) (v6 : Int32) (c : jS) : Option ((Int32 × Int32 × Int32 × jS) ⊕ (Int32 × jS)) :=
  if v3 ≤ 0 then (
    m_stepOf_P174_73 v2 v6 c)
  else (
    if v6 < 0 then (
      m_stepOf_P174_73 v2 v6 c)
    else (
      gd (ix (v3 - (1 : Int32)) 41) (
      gd (ix (v3 - (1 : Int32)) 41) (
      gd (ix (c 53 ((v3 - (1 : Int32))).toNatClampNeg) 400) (
      gd (ix (c 53 ((v3 - (1 : Int32))).toNatClampNeg) 400) (
      gd (ix (c 53 ((v3 - (1 : Int32))).toNatClampNeg) 400) (
      if (c 54 ((v3 - (1 : Int32))).toNatClampNeg) = 0 then (
        m_stepOf_P141_73 v2 (v3 - (1 : Int32)) (c 53 ((v3 - (1 : Int32))).toNatClampNeg) (c 54 ((v3 - (1 : Int32))).toNatClampNeg) v6 (c 35 ((c 53 ((v3 - (1 : Int32))).toNatClampNeg)).toNatClampNeg) (0 : Int32) (c 37 ((c 53 ((v3 - (1 : Int32))).toNatClampNeg)).toNatClampNeg) (c 38 ((c 53 ((v3 - (1 : Int32))).toNatClampNeg)).toNatClampNeg) v6 c)
      else (
        ob (m_part c (c 53 ((v3 - (1 : Int32))).toNatClampNeg) (0 : Int32)) (fun r6 =>
        m_stepOf_P141_73 v2 (v3 - (1 : Int32)) (c 53 ((v3 - (1 : Int32))).toNatClampNeg) (c 54 ((v3 - (1 : Int32))).toNatClampNeg) v6 (c 35 ((c 53 ((v3 - (1 : Int32))).toNatClampNeg)).toNatClampNeg) (0 : Int32) (c 37 ((c 53 ((v3 - (1 : Int32))).toNatClampNeg)).toNatClampNeg) (c 38 ((c 53 ((v3 - (1 : Int32))).toNatClampNeg)).toNatClampNeg) r6 c)))))))))
noncomputable def m_stepOf_L73 (v2 : Int32) (v3 : Int32) (v6 : Int32) (c : jS) : Option (Int32 × jS) :=
  lp (fun s : (Int32 × Int32 × Int32 × jS) => m_stepOf_S73 s.1 s.2.1 s.2.2.1 s.2.2.2) (v2, v3, v6, c)
noncomputable def m_stepOf_S18 (v2 : Int32) (v3 : Int32) (v4 : Int32) (v5 : Int32) (c : jS) : Option ((Int32 × Int32 × Int32 × Int32 × jS) ⊕ (Int32 × jS)) :=
  if v5 = (-2 : Int32) then (
    bd (m_stepHere c v4) (fun r2 c3 =>
    om (m_stepOf_L73 v2 v3 r2 c3)))
  else (
    gd (ix v3 41) (lt (su c 53 (v3).toNatClampNeg v4) (fun c14 =>
    gd (ix v3 41) (lt (su c14 54 (v3).toNatClampNeg v5) (fun c15 =>
    ob (m_part c15 v4 v5) (fun r16 =>
    ob (m_partToStep c15 r16) (fun r17 =>
    some (Sum.inl (v2, (v3 + (1 : Int32)), r16, r17, c15)))))))))
noncomputable def m_stepOf_L18 (v2 : Int32) (v3 : Int32) (v4 : Int32) (v5 : Int32) (c : jS) : Option (Int32 × jS) :=
  lp (fun s : (Int32 × Int32 × Int32 × Int32 × jS) => m_stepOf_S18 s.1 s.2.1 s.2.2.1 s.2.2.2.1 s.2.2.2.2) (v2, v3, v4, v5, c)
noncomputable def m_stepOf (c : jS) (a1 : Int32) : Option (Int32 × jS) :=
  ob (m_partToStep c a1) (fun r1 =>
  m_stepOf_L18 (c 30 5) (0 : Int32) a1 r1 c)

noncomputable def m_step (c : jS) (a1 : Int32) : Option (Int32 × jS) :=
  ob (m_isTerm c a1) (fun r1 =>
  if r1 = 0 then (
    some ((-1 : Int32), c))
  else (
    bd (m_stepOf c a1) (fun r2 c3 =>
    some (r2, c3))))

noncomputable def m_run_P68_34 (v3 : Int32) (v4 : Int32) (v5 : Int32) (v6 : Int32) (c : jS) : Option ((Int32 × Int32 × Int32 × Int32 × Int32 × jS) ⊕ (Int32 × jS)) :=
  if v5 = (-3 : Int32) then (
    lt (su c 30 5 v3) (fun c4 =>
    some (Sum.inr ((-3 : Int32), c4))))
  else (
    lt (su c 30 31 v6) (fun c3 =>
    some (Sum.inr (v4, c3))))
noncomputable def m_run_S34 (v2 : Int32) (v3 : Int32) (v4 : Int32) (v5 : Int32) (v6 : Int32) (c : jS) : Option ((Int32 × Int32 × Int32 × Int32 × Int32 × jS) ⊕ (Int32 × jS)) :=
  if v2 ≤ v6 then (
    m_run_P68_34 v3 v4 v5 v6 c)
  else (
    if v5 < 0 then (
      m_run_P68_34 v3 v4 v5 v6 c)
    else (
      bd (m_stepOf c v4) (fun r5 c6 =>
      if r5 < 0 then (
        some (Sum.inl (v2, v3, v4, r5, v6, c6)))
      else (
        some (Sum.inl (v2, v3, r5, r5, (v6 + (1 : Int32)), c6))))))
noncomputable def m_run_L34 (v2 : Int32) (v3 : Int32) (v4 : Int32) (v5 : Int32) (v6 : Int32) (c : jS) : Option (Int32 × jS) :=
  lp (fun s : (Int32 × Int32 × Int32 × Int32 × Int32 × jS) => m_run_S34 s.1 s.2.1 s.2.2.1 s.2.2.2.1 s.2.2.2.2.1 s.2.2.2.2.2) (v2, v3, v4, v5, v6, c)
noncomputable def m_run (c : jS) (a1 : Int32) (a2 : Int32) : Option (Int32 × jS) :=
  ob (m_isTerm c a1) (fun r1 =>
  if r1 = 0 then (
    some ((-1 : Int32), c))
  else (
    ob (m_in c a2 (0 : Int32) (50 : Int32)) (fun r2 =>
    if r2 = 0 then (
      some ((-1 : Int32), c))
    else (
      m_run_L34 a2 (c 30 5) a1 a1 (0 : Int32) c))))

noncomputable def m_ran (c : jS) : Option Int32 :=
  some (c 30 31)

noncomputable def m_dropTurn_P142 (v1 : Int32) (v2 : Int32) (s0 : Int32) (c : jS) : Option (Unit × jS) :=
  if s0 = 0 then (
    gd (ix v2 400) (
    gd (ix v1 90) (
    gd (ix v1 90) (
    gd (ix v1 90) (
    bd (m_remade c v2 (c 37 (v2).toNatClampNeg) (c 45 (v1).toNatClampNeg) (c 46 (v1).toNatClampNeg) (c 47 (v1).toNatClampNeg)) (fun r3 c4 =>
    lt (su c4 30 22 r3) (fun c5 =>
    lt (su c5 30 14 ((c5 30 14) - (1 : Int32))) (fun c6 =>
    some ((), c6)))))))))
  else (
    gd (ix v1 90) (
    lt (su c 30 22 (c 46 (v1).toNatClampNeg)) (fun c7 =>
    lt (su c7 30 14 ((c7 30 14) - (1 : Int32))) (fun c8 =>
    some ((), c8)))))
noncomputable def m_dropTurn_P141 (v1 : Int32) (v2 : Int32) (c : jS) : Option (Unit × jS) :=
  m_dropTurn_P142 v1 v2 (0 : Int32) c
noncomputable def m_dropTurn_P82 (v1 : Int32) (v2 : Int32) (v3 : Int32) (c : jS) : Option (Unit × jS) :=
  gd (ix v2 400) (
  ob (m_partsOf c (c 35 (v2).toNatClampNeg)) (fun r2 =>
  if r2 ≤ v3 then (
    gd (ix v2 400) (
    if (c 35 (v2).toNatClampNeg) = (4 : Int32) then (
      gd (ix v1 90) (
      gd (ix v2 400) (
      ob (m_isFree c (c 46 (v1).toNatClampNeg) (c 37 (v2).toNatClampNeg)) (fun r9 =>
      if r9 = 0 then (
        m_dropTurn_P142 v1 v2 (1 : Int32) c)
      else (
        m_dropTurn_P141 v1 v2 c)))))
    else (
      m_dropTurn_P141 v1 v2 c)))
  else (
    ob (m_part c v2 v3) (fun r10 =>
    bd (m_push c r10) (fun _ c11 =>
    some ((), c11))))))
noncomputable def m_dropTurn (c : jS) : Option (Unit × jS) :=
  gd (ix ((c 30 14) - (1 : Int32)) 90) (
  gd (ix ((c 30 14) - (1 : Int32)) 90) (
  gd (ix ((c 30 14) - (1 : Int32)) 90) (
  gd (ix ((c 30 14) - (1 : Int32)) 90) (lt (su c 44 (((c 30 14) - (1 : Int32))).toNatClampNeg ((c 44 (((c 30 14) - (1 : Int32))).toNatClampNeg) + (1 : Int32))) (fun c1 =>
  if (c 44 (((c 30 14) - (1 : Int32))).toNatClampNeg) = (1 : Int32) then (
    gd (ix ((c 30 14) - (1 : Int32)) 90) (lt (su c1 45 (((c 30 14) - (1 : Int32))).toNatClampNeg (c1 30 22)) (fun c14 =>
    m_dropTurn_P82 ((c 30 14) - (1 : Int32)) (c 43 (((c 30 14) - (1 : Int32))).toNatClampNeg) (c 44 (((c 30 14) - (1 : Int32))).toNatClampNeg) c14)))
  else (
    if (c 44 (((c 30 14) - (1 : Int32))).toNatClampNeg) = (2 : Int32) then (
      gd (ix ((c 30 14) - (1 : Int32)) 90) (lt (su c1 46 (((c 30 14) - (1 : Int32))).toNatClampNeg (c1 30 22)) (fun c13 =>
      m_dropTurn_P82 ((c 30 14) - (1 : Int32)) (c 43 (((c 30 14) - (1 : Int32))).toNatClampNeg) (c 44 (((c 30 14) - (1 : Int32))).toNatClampNeg) c13)))
    else (
      if (c 44 (((c 30 14) - (1 : Int32))).toNatClampNeg) = (3 : Int32) then (
        gd (ix ((c 30 14) - (1 : Int32)) 90) (lt (su c1 47 (((c 30 14) - (1 : Int32))).toNatClampNeg (c1 30 22)) (fun c12 =>
        m_dropTurn_P82 ((c 30 14) - (1 : Int32)) (c 43 (((c 30 14) - (1 : Int32))).toNatClampNeg) (c 44 (((c 30 14) - (1 : Int32))).toNatClampNeg) c12)))
      else (
        m_dropTurn_P82 ((c 30 14) - (1 : Int32)) (c 43 (((c 30 14) - (1 : Int32))).toNatClampNeg) (c 44 (((c 30 14) - (1 : Int32))).toNatClampNeg) c1))))))))

noncomputable def m_drop_P53_30 (v2 : Int32) (c : jS) : Option ((Int32 × jS) ⊕ (Int32 × jS)) :=
  if (c 30 22) = (-3 : Int32) then (
    lt (su c 30 5 v2) (fun c6 =>
    some (Sum.inr ((c6 30 22), c6))))
  else (
    lt (su c 30 5 (c 30 5)) (fun c5 =>
    some (Sum.inr ((c5 30 22), c5))))
noncomputable def m_drop_S30 (v2 : Int32) (c : jS) : Option ((Int32 × jS) ⊕ (Int32 × jS)) :=
  if (c 30 14) ≤ 0 then (
    m_drop_P53_30 v2 c)
  else (
    if (c 30 22) = (-3 : Int32) then (
      m_drop_P53_30 v2 c)
    else (
      bd (m_dropTurn c) (fun _ c7 =>
      some (Sum.inl (v2, c7)))))
noncomputable def m_drop_L30 (v2 : Int32) (c : jS) : Option (Int32 × jS) :=
  lp (fun s : (Int32 × jS) => m_drop_S30 s.1 s.2) (v2, c)
noncomputable def m_drop (c : jS) (a1 : Int32) : Option (Int32 × jS) :=
  ob (m_isTerm c a1) (fun r1 =>
  if r1 = 0 then (
    some ((-1 : Int32), c))
  else (
    lt (su c 30 14 (0 : Int32)) (fun c2 =>
    lt (su c2 30 22 a1) (fun c3 =>
    bd (m_push c3 a1) (fun _ c4 =>
    m_drop_L30 (c 30 5) c4)))))

noncomputable def m_say (c : jS) (a1 : Int32) : Option (Unit × jS) :=
  if (c 30 35) = (4000 : Int32) then (
    lt (su c 30 36 (1 : Int32)) (fun c3 =>
    some ((), c3)))
  else (
    gd (ix (c 30 35) 4000) (lt (su c 56 ((c 30 35)).toNatClampNeg a1) (fun c1 =>
    lt (su c1 30 35 ((c1 30 35) + (1 : Int32))) (fun c2 =>
    some ((), c2)))))

noncomputable def m_sayNumber_S43 (v2 : Int64) (v4 : Int64) (c : jS) : Option ((Int64 × Int64 × jS) ⊕ (Unit × jS)) :=
  if (lg_cmp v4 (0 : Int64)) ≤ 0 then (
    some (Sum.inr ((), c)))
  else (
    gd (nz64 v4) (
    gd (nz64 (10 : Int64)) (
    bd (m_say c ((48 : Int32) + ((v2 / v4) - (v2 / v4) / (10 : Int64) * (10 : Int64)).toInt32)) (fun _ c1 =>
    gd (nz64 (10 : Int64)) (
    some (Sum.inl (v2, (v4 / (10 : Int64)), c1)))))))
noncomputable def m_sayNumber_L43 (v2 : Int64) (v4 : Int64) (c : jS) : Option (Unit × jS) :=
  lp (fun s : (Int64 × Int64 × jS) => m_sayNumber_S43 s.1 s.2.1 s.2.2) (v2, v4, c)
noncomputable def m_sayNumber_S21 (v2 : Int64) (v4 : Int64) (c : jS) : Option ((Int64 × Int64 × jS) ⊕ (Unit × jS)) :=
  gd (nz64 v4) (
  if (lg_cmp (v2 / v4) (9 : Int64)) ≤ 0 then (
    om (m_sayNumber_L43 v2 v4 c))
  else (
    some (Sum.inl (v2, (v4 * (10 : Int64)), c))))
noncomputable def m_sayNumber_L21 (v2 : Int64) (v4 : Int64) (c : jS) : Option (Unit × jS) :=
  lp (fun s : (Int64 × Int64 × jS) => m_sayNumber_S21 s.1 s.2.1 s.2.2) (v2, v4, c)
noncomputable def m_sayNumber (c : jS) (a1 : Int32) : Option (Unit × jS) :=
  if 0 ≤ (lg_cmp a1.toInt64 (0 : Int64)) then (
    m_sayNumber_L21 a1.toInt64 (1 : Int64) c)
  else (
    bd (m_say c (45 : Int32)) (fun _ c2 =>
    m_sayNumber_L21 (- a1.toInt64) (1 : Int64) c2))

noncomputable def m_sayType_P86_16 (v2 : Int32) (v3 : Int32) (v4 : Int32) (s1 : Int32) (c : jS) : Option ((Int32 × jS) ⊕ (Unit × jS)) :=
  bd (m_say c s1) (fun _ c5 =>
  if v4 = 0 then (
    gd (ix v3 40) (
    gd (ix v2 44) (lt (su c5 57 (v2).toNatClampNeg (c5 31 (v3).toNatClampNeg)) (fun c8 =>
    gd (ix v2 44) (lt (su c8 58 (v2).toNatClampNeg (0 : Int32)) (fun c9 =>
    some (Sum.inl ((v2 + (1 : Int32)), c9))))))))
  else (
    gd (ix v3 40) (
    gd (ix v2 44) (lt (su c5 57 (v2).toNatClampNeg (c5 32 (v3).toNatClampNeg)) (fun c6 =>
    gd (ix v2 44) (lt (su c6 58 (v2).toNatClampNeg (0 : Int32)) (fun c7 =>
    some (Sum.inl ((v2 + (1 : Int32)), c7)))))))))
noncomputable def m_sayType_S16 (v2 : Int32) (c : jS) : Option ((Int32 × jS) ⊕ (Unit × jS)) :=
  if v2 ≤ 0 then (
    some (Sum.inr ((), c)))
  else (
    gd (ix (v2 - (1 : Int32)) 44) (
    gd (ix (v2 - (1 : Int32)) 44) (
    gd (ix (v2 - (1 : Int32)) 44) (
    gd (ix (v2 - (1 : Int32)) 44) (lt (su c 58 ((v2 - (1 : Int32))).toNatClampNeg ((c 58 ((v2 - (1 : Int32))).toNatClampNeg) + (1 : Int32))) (fun c3 =>
    if (c 57 ((v2 - (1 : Int32))).toNatClampNeg) = 0 then (
      bd (m_say c3 (105 : Int32)) (fun _ c10 =>
      some (Sum.inl ((v2 - (1 : Int32)), c10))))
    else (
      if (2 : Int32) ≤ (c 58 ((v2 - (1 : Int32))).toNatClampNeg) then (
        bd (m_say c3 (41 : Int32)) (fun _ c4 =>
        some (Sum.inl ((v2 - (1 : Int32)), c4))))
      else (
        if (c 58 ((v2 - (1 : Int32))).toNatClampNeg) = 0 then (
          m_sayType_P86_16 v2 (c 57 ((v2 - (1 : Int32))).toNatClampNeg) (c 58 ((v2 - (1 : Int32))).toNatClampNeg) (40 : Int32) c3)
        else (
          m_sayType_P86_16 v2 (c 57 ((v2 - (1 : Int32))).toNatClampNeg) (c 58 ((v2 - (1 : Int32))).toNatClampNeg) (62 : Int32) c3)))))))))
noncomputable def m_sayType_L16 (v2 : Int32) (c : jS) : Option (Unit × jS) :=
  lp (fun s : (Int32 × jS) => m_sayType_S16 s.1 s.2) (v2, c)
noncomputable def m_sayType (c : jS) (a1 : Int32) : Option (Unit × jS) :=
  gd (ix (0 : Int32) 44) (lt (su c 57 ((0 : Int32)).toNatClampNeg a1) (fun c1 =>
  gd (ix (0 : Int32) 44) (lt (su c1 58 ((0 : Int32)).toNatClampNeg (0 : Int32)) (fun c2 =>
  m_sayType_L16 (1 : Int32) c2))))

noncomputable def m_sayAt_P164 (v2 : Int32) (v3 : Int32) (c : jS) : Option (Unit × jS) :=
  if v2 = 0 then (
    bd (m_say c (40 : Int32)) (fun _ c4 =>
    some ((), c4)))
  else (
    if v2 = (2 : Int32) then (
      bd (m_say c (41 : Int32)) (fun _ c3 =>
      some ((), c3)))
    else (
      if v3 = (3 : Int32) then (
        bd (m_say c (32 : Int32)) (fun _ c2 =>
        some ((), c2)))
      else (
        bd (m_say c (43 : Int32)) (fun _ c1 =>
        some ((), c1)))))
noncomputable def m_sayAt_P154 (v2 : Int32) (v3 : Int32) (c : jS) : Option (Unit × jS) :=
  if v3 = (3 : Int32) then (
    m_sayAt_P164 v2 v3 c)
  else (
    if v3 = (5 : Int32) then (
      m_sayAt_P164 v2 v3 c)
    else (
      if v3 = (6 : Int32) then (
        if v2 = 0 then (
          bd (m_say c (123 : Int32)) (fun _ c8 =>
          some ((), c8)))
        else (
          if v2 = (1 : Int32) then (
            bd (m_say c (63 : Int32)) (fun _ c7 =>
            some ((), c7)))
          else (
            if v2 = (2 : Int32) then (
              bd (m_say c (58 : Int32)) (fun _ c6 =>
              some ((), c6)))
            else (
              bd (m_say c (125 : Int32)) (fun _ c5 =>
              some ((), c5))))))
      else (
        some ((), c))))
noncomputable def m_sayAt_P135 (v2 : Int32) (v3 : Int32) (c : jS) : Option (Unit × jS) :=
  if v3 = (4 : Int32) then (
    if v2 = (1 : Int32) then (
      bd (m_say c (93 : Int32)) (fun _ c9 =>
      some ((), c9)))
    else (
      m_sayAt_P154 v2 v3 c))
  else (
    m_sayAt_P154 v2 v3 c)
noncomputable def m_sayAt_P98 (v1 : Int32) (v2 : Int32) (v3 : Int32) (c : jS) : Option (Unit × jS) :=
  if v3 = (4 : Int32) then (
    if v2 = 0 then (
      bd (m_say c (91 : Int32)) (fun _ c10 =>
      gd (ix v1 400) (
      bd (m_say c10 ((97 : Int32) + (c10 37 (v1).toNatClampNeg))) (fun _ c11 =>
      bd (m_say c11 (61 : Int32)) (fun _ c12 =>
      some ((), c12))))))
    else (
      m_sayAt_P135 v2 v3 c))
  else (
    m_sayAt_P135 v2 v3 c)
noncomputable def m_sayAt (c : jS) (a1 : Int32) (a2 : Int32) : Option (Unit × jS) :=
  gd (ix a1 400) (
  if (c 35 (a1).toNatClampNeg) = 0 then (
    gd (ix a1 400) (
    bd (m_sayNumber c (c 36 (a1).toNatClampNeg)) (fun _ c19 =>
    some ((), c19))))
  else (
    if (c 35 (a1).toNatClampNeg) = (1 : Int32) then (
      gd (ix a1 400) (
      bd (m_say c ((97 : Int32) + (c 37 (a1).toNatClampNeg))) (fun _ c18 =>
      some ((), c18))))
    else (
      if (c 35 (a1).toNatClampNeg) = (2 : Int32) then (
        if a2 = 0 then (
          bd (m_say c (92 : Int32)) (fun _ c13 =>
          gd (ix a1 400) (
          bd (m_say c13 ((97 : Int32) + (c13 37 (a1).toNatClampNeg))) (fun _ c14 =>
          bd (m_say c14 (58 : Int32)) (fun _ c15 =>
          gd (ix a1 400) (
          bd (m_sayType c15 (c15 38 (a1).toNatClampNeg)) (fun _ c16 =>
          bd (m_say c16 (46 : Int32)) (fun _ c17 =>
          some ((), c17)))))))))
        else (
          m_sayAt_P98 a1 a2 (c 35 (a1).toNatClampNeg) c))
      else (
        m_sayAt_P98 a1 a2 (c 35 (a1).toNatClampNeg) c))))

noncomputable def m_print_S129 (v2 : Int32) (c : jS) : Option ((Int32 × jS) ⊕ (Int32 × jS)) :=
  if (c 30 35) ≤ v2 then (
    lt (su c 30 33 (c 30 35)) (fun c6 =>
    some (Sum.inr ((c6 30 33), c6))))
  else (
    gd (ix v2 4000) (
    gd (ix v2 4000) (lt (su c 55 (v2).toNatClampNeg (c 56 (v2).toNatClampNeg)) (fun c7 =>
    some (Sum.inl ((v2 + (1 : Int32)), c7))))))
noncomputable def m_print_L129 (v2 : Int32) (c : jS) : Option (Int32 × jS) :=
  lp (fun s : (Int32 × jS) => m_print_S129 s.1 s.2) (v2, c)
noncomputable def m_print_S30 (c : jS) : Option ((jS) ⊕ (Int32 × jS)) :=
  if (c 30 14) ≤ 0 then (
    if (c 30 36) = 0 then (
      om (m_print_L129 (0 : Int32) c))
    else (
      some (Sum.inr ((-3 : Int32), c))))
  else (
    gd (ix ((c 30 14) - (1 : Int32)) 90) (
    gd (ix ((c 30 14) - (1 : Int32)) 90) (
    gd (ix ((c 30 14) - (1 : Int32)) 90) (
    gd (ix ((c 30 14) - (1 : Int32)) 90) (lt (su c 44 (((c 30 14) - (1 : Int32))).toNatClampNeg ((c 44 (((c 30 14) - (1 : Int32))).toNatClampNeg) + (1 : Int32))) (fun c8 =>
    bd (m_sayAt c8 (c 43 (((c 30 14) - (1 : Int32))).toNatClampNeg) (c 44 (((c 30 14) - (1 : Int32))).toNatClampNeg)) (fun _ c9 =>
    gd (ix (c 43 (((c 30 14) - (1 : Int32))).toNatClampNeg) 400) (
    ob (m_partsOf c9 (c9 35 ((c 43 (((c 30 14) - (1 : Int32))).toNatClampNeg)).toNatClampNeg)) (fun r10 =>
    if r10 ≤ (c 44 (((c 30 14) - (1 : Int32))).toNatClampNeg) then (
      lt (su c9 30 14 ((c9 30 14) - (1 : Int32))) (fun c11 =>
      some (Sum.inl c11)))
    else (
      ob (m_part c9 (c 43 (((c 30 14) - (1 : Int32))).toNatClampNeg) (c 44 (((c 30 14) - (1 : Int32))).toNatClampNeg)) (fun r12 =>
      bd (m_push c9 r12) (fun _ c13 =>
      some (Sum.inl c13)))))))))))))
noncomputable def m_print_L30 (c : jS) : Option (Int32 × jS) :=
  lp (fun s : (jS) => m_print_S30 s) c
noncomputable def m_print (c : jS) (a1 : Int32) : Option (Int32 × jS) :=
  ob (m_isTerm c a1) (fun r1 =>
  if r1 = 0 then (
    some ((-1 : Int32), c))
  else (
    lt (su c 30 35 (0 : Int32)) (fun c2 =>
    lt (su c2 30 36 (0 : Int32)) (fun c3 =>
    lt (su c3 30 14 (0 : Int32)) (fun c4 =>
    bd (m_push c4 a1) (fun _ c5 =>
    m_print_L30 c5))))))

noncomputable def m_at (c : jS) (a1 : Int32) : Option Int32 :=
  ob (m_in c a1 (0 : Int32) ((c 30 33) - (1 : Int32))) (fun r1 =>
  if r1 = 0 then (
    some (-1 : Int32))
  else (
    gd (ix a1 4000) (
    some (c 55 (a1).toNatClampNeg))))

noncomputable def m_feed_S32 (v1 : Int64) (v4 : Int32) (c : jS) : Option ((Int64 × Int32 × jS) ⊕ (Int32 × jS)) :=
  if v4 < 0 then (
    some (Sum.inr ((c 30 40), c)))
  else (
    gd (ix (c 30 40) 600) (lt (su c 59 ((c 30 40)).toNatClampNeg ((v1 >>> (((8 : Int32) * v4).toInt64 &&& 63)).toInt32 &&& (255 : Int32))) (fun c2 =>
    lt (su c2 30 40 ((c2 30 40) + (1 : Int32))) (fun c3 =>
    some (Sum.inl (v1, (v4 - (1 : Int32)), c3))))))
noncomputable def m_feed_L32 (v1 : Int64) (v4 : Int32) (c : jS) : Option (Int32 × jS) :=
  lp (fun s : (Int64 × Int32 × jS) => m_feed_S32 s.1 s.2.1 s.2.2) (v1, v4, c)
noncomputable def m_feed (c : jS) (a1 : Int64) (a3 : Int32) : Option (Int32 × jS) :=
  ob (m_in c a3 (1 : Int32) (8 : Int32)) (fun r1 =>
  if r1 = 0 then (
    some ((-1 : Int32), c))
  else (
    if ((c 30 40) + a3) ≤ (600 : Int32) then (
      m_feed_L32 a1 (a3 - (1 : Int32)) c)
    else (
      some ((-3 : Int32), c))))

noncomputable def m_copy_S15 (v1 : Int32) (c : jS) : Option ((Int32 × jS) ⊕ (Int32 × jS)) :=
  if (c 30 33) ≤ v1 then (
    lt (su c 30 40 (c 30 33)) (fun c1 =>
    some (Sum.inr ((c1 30 40), c1))))
  else (
    gd (ix v1 4000) (
    gd (ix v1 600) (lt (su c 59 (v1).toNatClampNeg (c 55 (v1).toNatClampNeg)) (fun c2 =>
    some (Sum.inl ((v1 + (1 : Int32)), c2))))))
noncomputable def m_copy_L15 (v1 : Int32) (c : jS) : Option (Int32 × jS) :=
  lp (fun s : (Int32 × jS) => m_copy_S15 s.1 s.2) (v1, c)
noncomputable def m_copy (c : jS) : Option (Int32 × jS) :=
  if (c 30 33) ≤ (600 : Int32) then (
    m_copy_L15 (0 : Int32) c)
  else (
    some ((-3 : Int32), c))

noncomputable def m_byteHere (c : jS) : Option Int32 :=
  if (c 30 40) ≤ (c 30 41) then (
    some (-1 : Int32))
  else (
    gd (ix (c 30 41) 600) (
    some (c 59 ((c 30 41)).toNatClampNeg)))

noncomputable def m_must_P28 (c : jS) : Option (Unit × jS) :=
  if (c 30 42) = 0 then (
    lt (su c 30 42 (1 : Int32)) (fun c1 =>
    some ((), c1)))
  else (
    some ((), c))
noncomputable def m_must (c : jS) (a1 : Int32) : Option (Unit × jS) :=
  if (c 30 42) = 0 then (
    ob (m_byteHere c) (fun r2 =>
    if r2 = a1 then (
      lt (su c 30 41 ((c 30 41) + (1 : Int32))) (fun c3 =>
      some ((), c3)))
    else (
      m_must_P28 c)))
  else (
    m_must_P28 c)

noncomputable def m_mustLetter_P38 (c : jS) : Option (Int32 × jS) :=
  if (c 30 42) = 0 then (
    lt (su c 30 42 (1 : Int32)) (fun c3 =>
    some ((0 : Int32), c3)))
  else (
    lt (su c 30 42 (c 30 42)) (fun c2 =>
    some ((0 : Int32), c2)))
noncomputable def m_mustLetter (c : jS) : Option (Int32 × jS) :=
  ob (m_byteHere c) (fun r1 =>
  if (c 30 42) = 0 then (
    ob (m_in c r1 (97 : Int32) (122 : Int32)) (fun r4 =>
    if r4 = 0 then (
      m_mustLetter_P38 c)
    else (
      lt (su c 30 41 ((c 30 41) + (1 : Int32))) (fun c5 =>
      some ((r1 - (97 : Int32)), c5)))))
  else (
    m_mustLetter_P38 c))

noncomputable def m_made (c : jS) (a1 : Int32) : Option (Unit × jS) :=
  lt (su c 30 22 a1) (fun c1 =>
  if a1 = (-3 : Int32) then (
    lt (su c1 30 42 (2 : Int32)) (fun c3 =>
    some ((), c3)))
  else (
    lt (su c1 30 42 (c1 30 42)) (fun c2 =>
    some ((), c2))))

noncomputable def m_readType_P191_7 (v1 : Int32) (v3 : Int32) (s0 : Int32) (c : jS) : Option ((Int32 × Int32 × Int32 × jS) ⊕ (Int32 × jS)) :=
  if s0 = (-3 : Int32) then (
    lt (su c 30 42 (2 : Int32)) (fun c3 =>
    some (Sum.inl (v1, s0, v3, c3))))
  else (
    lt (su c 30 42 (c 30 42)) (fun c2 =>
    some (Sum.inl (v1, s0, v3, c2))))
noncomputable def m_readType_P103_7 (v1 : Int32) (v2 : Int32) (v3 : Int32) (c : jS) : Option ((Int32 × Int32 × Int32 × jS) ⊕ (Int32 × jS)) :=
  if v3 = 0 then (
    gd (ix (v1 - (1 : Int32)) 44) (
    if (c 58 ((v1 - (1 : Int32))).toNatClampNeg) = 0 then (
      bd (m_must c (62 : Int32)) (fun _ c6 =>
      gd (ix (v1 - (1 : Int32)) 44) (lt (su c6 57 ((v1 - (1 : Int32))).toNatClampNeg v2) (fun c7 =>
      gd (ix (v1 - (1 : Int32)) 44) (lt (su c7 58 ((v1 - (1 : Int32))).toNatClampNeg (1 : Int32)) (fun c8 =>
      some (Sum.inl (v1, v2, (1 : Int32), c8))))))))
    else (
      bd (m_must c (41 : Int32)) (fun _ c1 =>
      if (c1 30 42) = 0 then (
        gd (ix (v1 - (1 : Int32)) 44) (
        bd (m_arrowOf c1 (c1 57 ((v1 - (1 : Int32))).toNatClampNeg) v2) (fun r4 c5 =>
        m_readType_P191_7 (v1 - (1 : Int32)) v3 r4 c5)))
      else (
        m_readType_P191_7 (v1 - (1 : Int32)) v3 (0 : Int32) c1)))))
  else (
    bd (m_must c (105 : Int32)) (fun _ c9 =>
    some (Sum.inl (v1, (0 : Int32), (0 : Int32), c9))))
noncomputable def m_readType_P67_7 (v1 : Int32) (v2 : Int32) (v3 : Int32) (c : jS) : Option ((Int32 × Int32 × Int32 × jS) ⊕ (Int32 × jS)) :=
  if v3 = 0 then (
    m_readType_P103_7 v1 v2 v3 c)
  else (
    ob (m_byteHere c) (fun r10 =>
    if r10 = (40 : Int32) then (
      lt (su c 30 41 ((c 30 41) + (1 : Int32))) (fun c11 =>
      gd (ix v1 44) (lt (su c11 58 (v1).toNatClampNeg (0 : Int32)) (fun c12 =>
      some (Sum.inl ((v1 + (1 : Int32)), v2, v3, c12))))))
    else (
      m_readType_P103_7 v1 v2 v3 c)))
noncomputable def m_readType_P22_7 (v1 : Int32) (v2 : Int32) (v3 : Int32) (c : jS) : Option ((Int32 × Int32 × Int32 × jS) ⊕ (Int32 × jS)) :=
  if v3 = 0 then (
    m_readType_P67_7 v1 v2 v3 c)
  else (
    if ((c 30 14) + v1) = (40 : Int32) then (
      ob (m_byteHere c) (fun r13 =>
      if r13 = (105 : Int32) then (
        lt (su c 30 42 (2 : Int32)) (fun c14 =>
        some (Sum.inl (v1, v2, v3, c14))))
      else (
        ob (m_byteHere c) (fun r15 =>
        if r15 = (40 : Int32) then (
          lt (su c 30 42 (2 : Int32)) (fun c17 =>
          some (Sum.inl (v1, v2, v3, c17))))
        else (
          lt (su c 30 42 (1 : Int32)) (fun c16 =>
          some (Sum.inl (v1, v2, v3, c16))))))))
    else (
      m_readType_P67_7 v1 v2 v3 c))
noncomputable def m_readType_S7 (v1 : Int32) (v2 : Int32) (v3 : Int32) (c : jS) : Option ((Int32 × Int32 × Int32 × jS) ⊕ (Int32 × jS)) :=
  if (c 30 42) = 0 then (
    if v3 = 0 then (
      if v1 ≤ 0 then (
        some (Sum.inr (v2, c)))
      else (
        m_readType_P22_7 v1 v2 v3 c))
    else (
      m_readType_P22_7 v1 v2 v3 c))
  else (
    some (Sum.inr (v2, c)))
noncomputable def m_readType_L7 (v1 : Int32) (v2 : Int32) (v3 : Int32) (c : jS) : Option (Int32 × jS) :=
  lp (fun s : (Int32 × Int32 × Int32 × jS) => m_readType_S7 s.1 s.2.1 s.2.2.1 s.2.2.2) (v1, v2, v3, c)
noncomputable def m_readType (c : jS) : Option (Int32 × jS) :=
  m_readType_L7 (0 : Int32) (-2 : Int32) (1 : Int32) c

noncomputable def m_readNumber_P169_95 (v1 : Int32) (v5 : Int64) (c : jS) : Option ((Int32 × Int64 × Int64 × jS) ⊕ (Unit × jS)) :=
  if (c 30 42) = 0 then (
    if v1 = 0 then (
      bd (m_make c (0 : Int32) v5.toInt32 (-2 : Int32) (-2 : Int32) (-2 : Int32) (-2 : Int32) (-2 : Int32)) (fun r6 c7 =>
      bd (m_made c7 r6) (fun _ c8 =>
      some (Sum.inr ((), c8)))))
    else (
      bd (m_make c (0 : Int32) (- v5).toInt32 (-2 : Int32) (-2 : Int32) (-2 : Int32) (-2 : Int32) (-2 : Int32)) (fun r9 c10 =>
      bd (m_made c10 r9) (fun _ c11 =>
      some (Sum.inr ((), c11))))))
  else (
    some (Sum.inr ((), c)))
noncomputable def m_readNumber_S95 (v1 : Int32) (v3 : Int64) (v5 : Int64) (c : jS) : Option ((Int32 × Int64 × Int64 × jS) ⊕ (Unit × jS)) :=
  if (lg_cmp v5 (0 : Int64)) ≤ 0 then (
    m_readNumber_P169_95 v1 v5 c)
  else (
    ob (m_byteHere c) (fun r12 =>
    ob (m_in c r12 (48 : Int32) (57 : Int32)) (fun r13 =>
    if r13 = 0 then (
      m_readNumber_P169_95 v1 v5 c)
    else (
      if (c 30 42) = 0 then (
        ob (m_byteHere c) (fun r14 =>
        if (lg_cmp ((((10 : Int64) * v5) + r14.toInt64) - (48 : Int64)) v3) ≤ 0 then (
          lt (su c 30 41 ((c 30 41) + (1 : Int32))) (fun c15 =>
          some (Sum.inl (v1, v3, ((((10 : Int64) * v5) + r14.toInt64) - (48 : Int64)), c15))))
        else (
          lt (su c 30 42 (1 : Int32)) (fun c16 =>
          some (Sum.inl (v1, v3, ((((10 : Int64) * v5) + r14.toInt64) - (48 : Int64)), c16))))))
      else (
        m_readNumber_P169_95 v1 v5 c)))))
noncomputable def m_readNumber_L95 (v1 : Int32) (v3 : Int64) (v5 : Int64) (c : jS) : Option (Unit × jS) :=
  lp (fun s : (Int32 × Int64 × Int64 × jS) => m_readNumber_S95 s.1 s.2.1 s.2.2.1 s.2.2.2) (v1, v3, v5, c)
noncomputable def m_readNumber_P77 (v1 : Int32) (v2 : Int32) (s0 : Int64) (c : jS) : Option (Unit × jS) :=
  lt (su c 30 41 ((c 30 41) + (1 : Int32))) (fun c5 =>
  m_readNumber_L95 v1 s0 (v2 - (48 : Int32)).toInt64 c5)
noncomputable def m_readNumber_P50 (v1 : Int32) (v2 : Int32) (s0 : Int32) (s1 : Int32) (c : jS) : Option (Unit × jS) :=
  ob (m_in c s0 s1 (57 : Int32)) (fun r4 =>
  if r4 = 0 then (
    lt (su c 30 42 (1 : Int32)) (fun c17 =>
    some ((), c17)))
  else (
    if v1 = 0 then (
      m_readNumber_P77 v1 v2 (2147483647 : Int64) c)
    else (
      m_readNumber_P77 v1 v2 (2147483648 : Int64) c)))
noncomputable def m_readNumber_P29 (v1 : Int32) (s1 : Int32) (s2 : Int32) (c : jS) : Option (Unit × jS) :=
  lt (su c 30 41 (s1 + s2)) (fun c2 =>
  ob (m_byteHere c2) (fun r3 =>
  if v1 = 0 then (
    m_readNumber_P50 v1 r3 r3 (48 : Int32) c2)
  else (
    m_readNumber_P50 v1 r3 r3 (49 : Int32) c2)))
noncomputable def m_readNumber_P14 (s0 : Int32) (c : jS) : Option (Unit × jS) :=
  if s0 = 0 then (
    m_readNumber_P29 s0 (c 30 41) (0 : Int32) c)
  else (
    m_readNumber_P29 s0 (c 30 41) (1 : Int32) c)
noncomputable def m_readNumber (c : jS) : Option (Unit × jS) :=
  ob (m_byteHere c) (fun r1 =>
  if r1 = (45 : Int32) then (
    m_readNumber_P14 (1 : Int32) c)
  else (
    m_readNumber_P14 (0 : Int32) c))

noncomputable def m_readBegin_P114 (s0 : Int32) (c : jS) : Option (Unit × jS) :=
  if s0 = (-2 : Int32) then (
    lt (su c 30 42 (1 : Int32)) (fun c22 =>
    some ((), c22)))
  else (
    lt (su c 30 41 ((c 30 41) + (1 : Int32))) (fun c5 =>
    bd (m_push c5 s0) (fun _ c6 =>
    lt (su c6 30 22 (-2 : Int32)) (fun c7 =>
    if s0 = (2 : Int32) then (
      bd (m_mustLetter c7) (fun r12 c13 =>
      gd (ix ((c6 30 14) - (1 : Int32)) 90) (lt (su c13 48 (((c6 30 14) - (1 : Int32))).toNatClampNeg r12) (fun c14 =>
      bd (m_must c14 (58 : Int32)) (fun _ c15 =>
      if (c15 30 42) = 0 then (
        bd (m_readType c15) (fun r18 c19 =>
        gd (ix ((c6 30 14) - (1 : Int32)) 90) (lt (su c19 49 (((c6 30 14) - (1 : Int32))).toNatClampNeg r18) (fun c20 =>
        bd (m_must c20 (46 : Int32)) (fun _ c21 =>
        some ((), c21))))))
      else (
        gd (ix ((c6 30 14) - (1 : Int32)) 90) (lt (su c15 49 (((c6 30 14) - (1 : Int32))).toNatClampNeg (-2 : Int32)) (fun c16 =>
        bd (m_must c16 (46 : Int32)) (fun _ c17 =>
        some ((), c17))))))))))
    else (
      if s0 = (4 : Int32) then (
        bd (m_mustLetter c7) (fun r8 c9 =>
        gd (ix ((c6 30 14) - (1 : Int32)) 90) (lt (su c9 48 (((c6 30 14) - (1 : Int32))).toNatClampNeg r8) (fun c10 =>
        bd (m_must c10 (61 : Int32)) (fun _ c11 =>
        some ((), c11))))))
      else (
        some ((), c7)))))))
noncomputable def m_readBegin (c : jS) : Option (Unit × jS) :=
  ob (m_byteHere c) (fun r1 =>
  ob (m_in c r1 (97 : Int32) (122 : Int32)) (fun r2 =>
  if r2 = 0 then (
    if r1 = (45 : Int32) then (
      bd (m_readNumber c) (fun _ c3 =>
      some ((), c3)))
    else (
      ob (m_in c r1 (48 : Int32) (57 : Int32)) (fun r4 =>
      if r4 = 0 then (
        if r1 = (92 : Int32) then (
          m_readBegin_P114 (2 : Int32) c)
        else (
          if r1 = (40 : Int32) then (
            m_readBegin_P114 (3 : Int32) c)
          else (
            if r1 = (91 : Int32) then (
              m_readBegin_P114 (4 : Int32) c)
            else (
              if r1 = (123 : Int32) then (
                m_readBegin_P114 (6 : Int32) c)
              else (
                m_readBegin_P114 (-2 : Int32) c)))))
      else (
        bd (m_readNumber c) (fun _ c23 =>
        some ((), c23))))))
  else (
    lt (su c 30 41 ((c 30 41) + (1 : Int32))) (fun c24 =>
    bd (m_make c24 (1 : Int32) (0 : Int32) (r1 - (97 : Int32)) (-2 : Int32) (-2 : Int32) (-2 : Int32) (-2 : Int32)) (fun r25 c26 =>
    bd (m_made c26 r25) (fun _ c27 =>
    some ((), c27)))))))

noncomputable def m_readPart_P136 (s1 : Int32) (s2 : Int32) (c : jS) : Option (Unit × jS) :=
  gd (ix s1 90) (lt (su c 43 (s1).toNatClampNeg s2) (fun c16 =>
  ob (m_byteHere c16) (fun r17 =>
  if r17 = (43 : Int32) then (
    bd (m_must c16 (43 : Int32)) (fun _ c19 =>
    some ((), c19)))
  else (
    bd (m_must c16 (32 : Int32)) (fun _ c18 =>
    some ((), c18))))))
noncomputable def m_readPart_P308 (v1 : Int32) (s2 : Int32) (s3 : Int32) (s4 : Int32) (s5 : Int32) (c : jS) : Option (Unit × jS) :=
  gd (ix v1 90) (
  gd (ix v1 90) (
  gd (ix v1 90) (
  bd (m_make c s2 s3 s4 s5 (c 45 (v1).toNatClampNeg) (c 46 (v1).toNatClampNeg) (c 47 (v1).toNatClampNeg)) (fun r8 c9 =>
  bd (m_made c9 r8) (fun _ c10 =>
  some ((), c10))))))
noncomputable def m_readPart_P292 (v1 : Int32) (v2 : Int32) (s2 : Int32) (s3 : Int32) (s4 : Int32) (c : jS) : Option (Unit × jS) :=
  if v2 = (2 : Int32) then (
    gd (ix v1 90) (
    m_readPart_P308 v1 s2 s3 s4 (c 49 (v1).toNatClampNeg) c))
  else (
    m_readPart_P308 v1 s2 s3 s4 (-2 : Int32) c)
noncomputable def m_readPart_P270 (v1 : Int32) (v2 : Int32) (s0 : Int32) (c : jS) : Option (Unit × jS) :=
  if s0 = 0 then (
    m_readPart_P292 v1 v2 v2 (0 : Int32) (-2 : Int32) c)
  else (
    gd (ix v1 90) (
    m_readPart_P292 v1 v2 v2 (0 : Int32) (c 48 (v1).toNatClampNeg) c))
noncomputable def m_readPart_P265 (v1 : Int32) (v2 : Int32) (c : jS) : Option (Unit × jS) :=
  m_readPart_P270 v1 v2 (1 : Int32) c
noncomputable def m_readPart_P238 (v1 : Int32) (v2 : Int32) (c : jS) : Option (Unit × jS) :=
  if (c 30 42) = 0 then (
    lt (su c 30 14 ((c 30 14) - (1 : Int32))) (fun c7 =>
    if v2 = (2 : Int32) then (
      m_readPart_P265 v1 v2 c7)
    else (
      if v2 = (4 : Int32) then (
        m_readPart_P265 v1 v2 c7)
      else (
        m_readPart_P270 v1 v2 (0 : Int32) c7))))
  else (
    some ((), c))
noncomputable def m_readPart_P217 (v1 : Int32) (v2 : Int32) (c : jS) : Option (Unit × jS) :=
  bd (m_must c (41 : Int32)) (fun _ c6 =>
  m_readPart_P238 v1 v2 c6)
noncomputable def m_readPart_P207 (v1 : Int32) (v2 : Int32) (c : jS) : Option (Unit × jS) :=
  if v2 = (3 : Int32) then (
    m_readPart_P217 v1 v2 c)
  else (
    if v2 = (5 : Int32) then (
      m_readPart_P217 v1 v2 c)
    else (
      if v2 = (6 : Int32) then (
        bd (m_must c (125 : Int32)) (fun _ c11 =>
        m_readPart_P238 v1 v2 c11))
      else (
        m_readPart_P238 v1 v2 c)))
noncomputable def m_readPart_P178 (v1 : Int32) (v2 : Int32) (v3 : Int32) (c : jS) : Option (Unit × jS) :=
  if v2 = (6 : Int32) then (
    if (2 : Int32) ≤ v3 then (
      m_readPart_P207 v1 v2 c)
    else (
      if v3 = 0 then (
        bd (m_must c (63 : Int32)) (fun _ c13 =>
        some ((), c13)))
      else (
        bd (m_must c (58 : Int32)) (fun _ c12 =>
        some ((), c12)))))
  else (
    m_readPart_P207 v1 v2 c)
noncomputable def m_readPart_P160 (v1 : Int32) (v2 : Int32) (v3 : Int32) (c : jS) : Option (Unit × jS) :=
  if v3 = 0 then (
    if v2 = (4 : Int32) then (
      bd (m_must c (93 : Int32)) (fun _ c14 =>
      some ((), c14)))
    else (
      m_readPart_P178 v1 v2 v3 c))
  else (
    m_readPart_P178 v1 v2 v3 c)
noncomputable def m_readPart_P101 (v1 : Int32) (v2 : Int32) (v3 : Int32) (s1 : Int32) (s2 : Int32) (c : jS) : Option (Unit × jS) :=
  gd (ix s1 90) (lt (su c 47 (s1).toNatClampNeg s2) (fun c4 =>
  lt (su c4 30 22 (-2 : Int32)) (fun c5 =>
  if v3 = 0 then (
    if v2 = (3 : Int32) then (
      ob (m_byteHere c5) (fun r15 =>
      if r15 = (43 : Int32) then (
        m_readPart_P136 v1 (5 : Int32) c5)
      else (
        m_readPart_P136 v1 (3 : Int32) c5)))
    else (
      m_readPart_P160 v1 v2 v3 c5))
  else (
    m_readPart_P160 v1 v2 v3 c5))))
noncomputable def m_readPart_P79 (v1 : Int32) (v2 : Int32) (v3 : Int32) (v4 : Int32) (s1 : Int32) (s2 : Int32) (c : jS) : Option (Unit × jS) :=
  gd (ix s1 90) (lt (su c 46 (s1).toNatClampNeg s2) (fun c3 =>
  if v3 = (2 : Int32) then (
    m_readPart_P101 v1 v2 v3 v1 v4 c3)
  else (
    gd (ix v1 90) (
    m_readPart_P101 v1 v2 v3 v1 (c3 47 (v1).toNatClampNeg) c3))))
noncomputable def m_readPart_P57 (v1 : Int32) (v2 : Int32) (v3 : Int32) (v4 : Int32) (s1 : Int32) (s2 : Int32) (c : jS) : Option (Unit × jS) :=
  gd (ix s1 90) (lt (su c 45 (s1).toNatClampNeg s2) (fun c2 =>
  if v3 = (1 : Int32) then (
    m_readPart_P79 v1 v2 v3 v4 v1 v4 c2)
  else (
    gd (ix v1 90) (
    m_readPart_P79 v1 v2 v3 v4 v1 (c2 46 (v1).toNatClampNeg) c2))))
noncomputable def m_readPart (c : jS) : Option (Unit × jS) :=
  gd (ix ((c 30 14) - (1 : Int32)) 90) (
  gd (ix ((c 30 14) - (1 : Int32)) 90) (
  gd (ix ((c 30 14) - (1 : Int32)) 90) (
  gd (ix ((c 30 14) - (1 : Int32)) 90) (lt (su c 44 (((c 30 14) - (1 : Int32))).toNatClampNeg ((c 44 (((c 30 14) - (1 : Int32))).toNatClampNeg) + (1 : Int32))) (fun c1 =>
  if (c 44 (((c 30 14) - (1 : Int32))).toNatClampNeg) = 0 then (
    m_readPart_P57 ((c 30 14) - (1 : Int32)) (c 43 (((c 30 14) - (1 : Int32))).toNatClampNeg) (c 44 (((c 30 14) - (1 : Int32))).toNatClampNeg) (c 30 22) ((c 30 14) - (1 : Int32)) (c 30 22) c1)
  else (
    gd (ix ((c 30 14) - (1 : Int32)) 90) (
    m_readPart_P57 ((c 30 14) - (1 : Int32)) (c 43 (((c 30 14) - (1 : Int32))).toNatClampNeg) (c 44 (((c 30 14) - (1 : Int32))).toNatClampNeg) (c 30 22) ((c 30 14) - (1 : Int32)) (c1 45 (((c 30 14) - (1 : Int32))).toNatClampNeg) c1)))))))

noncomputable def m_begins (c : jS) (a0 : Int32) : Option Int32 :=
  ob (m_in c a0 (97 : Int32) (122 : Int32)) (fun r1 =>
  if r1 = 0 then (
    ob (m_in c a0 (48 : Int32) (57 : Int32)) (fun r2 =>
    if r2 = 0 then (
      if a0 = (45 : Int32) then (
        some (1 : Int32))
      else (
        if a0 = (92 : Int32) then (
          some (1 : Int32))
        else (
          if a0 = (40 : Int32) then (
            some (1 : Int32))
          else (
            if a0 = (91 : Int32) then (
              some (1 : Int32))
            else (
              if a0 = (123 : Int32) then (
                some (1 : Int32))
              else (
                some (0 : Int32)))))))
    else (
      some (1 : Int32))))
  else (
    some (1 : Int32)))

noncomputable def m_read_P54_31 (v1 : Int32) (v2 : Int32) (c : jS) : Option ((Int32 × Int32 × jS) ⊕ (Int32 × jS)) :=
  if (c 30 22) = (-2 : Int32) then (
    if (c 30 14) = (40 : Int32) then (
      ob (m_byteHere c) (fun r10 =>
      ob (m_begins c r10) (fun r11 =>
      if r11 = 0 then (
        lt (su c 30 42 (1 : Int32)) (fun c12 =>
        some (Sum.inl (v1, v2, c12))))
      else (
        lt (su c 30 42 (2 : Int32)) (fun c13 =>
        some (Sum.inl (v1, v2, c13)))))))
    else (
      bd (m_readBegin c) (fun _ c9 =>
      some (Sum.inl (v1, v2, c9)))))
  else (
    bd (m_readPart c) (fun _ c14 =>
    some (Sum.inl (v1, v2, c14))))
noncomputable def m_read_P131_31 (v1 : Int32) (v2 : Int32) (c : jS) : Option ((Int32 × Int32 × jS) ⊕ (Int32 × jS)) :=
  lt (su c 30 40 (0 : Int32)) (fun c5 =>
  if (c5 30 42) ≤ 0 then (
    some (Sum.inr ((c5 30 22), c5)))
  else (
    lt (su c5 30 5 v1) (fun c6 =>
    lt (su c6 30 0 v2) (fun c7 =>
    if (c7 30 42) = (2 : Int32) then (
      some (Sum.inr ((-3 : Int32), c7)))
    else (
      some (Sum.inr (((-10 : Int32) - (c7 30 41)), c7)))))))
noncomputable def m_read_P108_31 (v1 : Int32) (v2 : Int32) (c : jS) : Option ((Int32 × Int32 × jS) ⊕ (Int32 × jS)) :=
  if (c 30 42) = 0 then (
    if (c 30 40) ≤ (c 30 41) then (
      m_read_P131_31 v1 v2 c)
    else (
      lt (su c 30 42 (1 : Int32)) (fun c8 =>
      m_read_P131_31 v1 v2 c8)))
  else (
    m_read_P131_31 v1 v2 c)
noncomputable def m_read_S31 (v1 : Int32) (v2 : Int32) (c : jS) : Option ((Int32 × Int32 × jS) ⊕ (Int32 × jS)) :=
  if (c 30 42) = 0 then (
    if 0 < (c 30 14) then (
      m_read_P54_31 v1 v2 c)
    else (
      if (c 30 22) = (-2 : Int32) then (
        m_read_P54_31 v1 v2 c)
      else (
        m_read_P108_31 v1 v2 c)))
  else (
    m_read_P108_31 v1 v2 c)
noncomputable def m_read_L31 (v1 : Int32) (v2 : Int32) (c : jS) : Option (Int32 × jS) :=
  lp (fun s : (Int32 × Int32 × jS) => m_read_S31 s.1 s.2.1 s.2.2) (v1, v2, c)
noncomputable def m_read (c : jS) : Option (Int32 × jS) :=
  lt (su c 30 41 (0 : Int32)) (fun c1 =>
  lt (su c1 30 42 (0 : Int32)) (fun c2 =>
  lt (su c2 30 14 (0 : Int32)) (fun c3 =>
  lt (su c3 30 22 (-2 : Int32)) (fun c4 =>
  m_read_L31 (c 30 5) (c 30 0) c4))))

noncomputable def m_count (c : jS) (a1 : Int32) : Option Int32 :=
  if a1 = 0 then (
    some (c 30 5))
  else (
  if a1 = 1 then (
    some (c 30 0))
  else (
  if a1 = 2 then (
    some (c 30 40))
  else (
  if a1 = 3 then (
    some (c 30 33))
  else (
  some (-1 : Int32)))))

noncomputable def m_clear (c : jS) : Option (Int32 × jS) :=
  lt (su c 30 5 (0 : Int32)) (fun c1 =>
  some ((c 30 5), c1))
