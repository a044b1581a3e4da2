set_option maxHeartbeats 4000000 in
set_option maxRecDepth 100000 in
theorem tb_xTypist_typeFor {l : Launch} {D : va_G} {G : Nat → ClassId} {d : Nat} {e : Nat} {F_typeFor : jS → Int32 → Option (Int32 × jS)} {F_typeForFunction : jS → Int32 → Option (Int32 × jS)} {F_typeUnder : jS → Int32 → Int32 → Int32 → Option (Int32 × jS)} {F_typeForCall : jS → Int32 → Option (Int32 × jS)} {F_typeThatIs : jS → Int32 → Int32 → Option (Int32 × jS)} {F_typeForLet : jS → Int32 → Option (Int32 × jS)} {F_typeForSum : jS → Int32 → Option (Int32 × jS)} {F_typeForChoice : jS → Int32 → Option (Int32 × jS)} (i0 : ∀ (c r : jS) (a1 : Int32) (vE : Int32) (cE : jS), F_typeFor c a1 = some (vE, cE) → jC l D G e M_xTypist_typeFor [.ref 17, .int a1] (jmix c r) (some (.int vE)) (jmix cE r)) (i1 : ∀ (c r : jS) (a1 : Int32) (vE : Int32) (cE : jS), F_typeForFunction c a1 = some (vE, cE) → jC l D G e M_xTypist_typeForFunction [.ref 17, .int a1] (jmix c r) (some (.int vE)) (jmix cE r)) (i2 : ∀ (c r : jS) (a1 : Int32) (a2 : Int32) (a3 : Int32) (vE : Int32) (cE : jS), F_typeUnder c a1 a2 a3 = some (vE, cE) → jC l D G e M_xTypist_typeUnder [.ref 17, .int a1, .int a2, .int a3] (jmix c r) (some (.int vE)) (jmix cE r)) (i3 : ∀ (c r : jS) (a1 : Int32) (vE : Int32) (cE : jS), F_typeForCall c a1 = some (vE, cE) → jC l D G e M_xTypist_typeForCall [.ref 17, .int a1] (jmix c r) (some (.int vE)) (jmix cE r)) (i4 : ∀ (c r : jS) (a1 : Int32) (a2 : Int32) (vE : Int32) (cE : jS), F_typeThatIs c a1 a2 = some (vE, cE) → jC l D G e M_xTypist_typeThatIs [.ref 17, .int a1, .int a2] (jmix c r) (some (.int vE)) (jmix cE r)) (i5 : ∀ (c r : jS) (a1 : Int32) (vE : Int32) (cE : jS), F_typeForLet c a1 = some (vE, cE) → jC l D G e M_xTypist_typeForLet [.ref 17, .int a1] (jmix c r) (some (.int vE)) (jmix cE r)) (i6 : ∀ (c r : jS) (a1 : Int32) (vE : Int32) (cE : jS), F_typeForSum c a1 = some (vE, cE) → jC l D G e M_xTypist_typeForSum [.ref 17, .int a1] (jmix c r) (some (.int vE)) (jmix cE r)) (i7 : ∀ (c r : jS) (a1 : Int32) (vE : Int32) (cE : jS), F_typeForChoice c a1 = some (vE, cE) → jC l D G e M_xTypist_typeForChoice [.ref 17, .int a1] (jmix c r) (some (.int vE)) (jmix cE r)) (hdp : 3 ≤ d) (hde : e + 1 ≤ d) {c r : jS} {a1 : Int32} {vE : Int32} {cE : jS} (h : b_xTypist_typeFor F_typeFor F_typeForFunction F_typeUnder F_typeForCall F_typeThatIs F_typeForLet F_typeForSum F_typeForChoice c a1 = some (vE, cE)) : jC l D G d M_xTypist_typeFor [.ref 17, .int a1] (jmix c r) (some (.int vE)) (jmix cE r) := by
  refine jM_of rfl (Nat.le_of_ble_eq_true rfl) ?_
  intro X hl hD hG _ _ hX hE _
  subst hl hD hG
  unfold b_xTypist_typeFor at h
  show J X 0 0 jN (jE (jmix c r)) [(0, .ref 17), (1, .int a1)] [] 0
  refine j_aload_n (pc := 0) hX dX8_typeFor_0 rfl rfl ?_
  refine k_getR (pc := 1) (q := 5) hX fl_8_22 dX8_typeFor_1 rfl rfl ?_
  refine j_iload_n (pc := 4) hX dX8_typeFor_4 rfl rfl ?_
  obtain ⟨r1, h1, h⟩ := ob_some h
  refine k_callVI (pc := 5) (st := []) hX ln_8_51 dX8_typeFor_5 (t_xTerms_kindOf (d := 1) (Nat.le_refl _) h1) rfl rfl rfl (by omega) (Nat.le_of_ble_eq_true rfl) ?_
  by_cases z0 : r1 = 0
  · replace h := ite_t z0 h
    refine j_tabEq (pc := 8) (tgt := 52) 0 hX dX8_typeFor_8 z0 (by decide) (by decide) rfl (by decide) ?_
    refine j_iconst (pc := 52) (v := (0 : Int32)) hX dX8_typeFor_52 (by decide) ?_
    obtain ⟨h, h0⟩ := Prod.mk.inj (Option.some.inj h)
    subst h h0
    exact j_iret (pc := 53) hX hE rfl rfl dX8_typeFor_53 (Nat.le_refl 0) (Nat.le_refl 0) ⟨rfl, rfl, rfl⟩
  replace h := ite_f z0 h
  by_cases z1 : r1 = 1
  · replace h := ite_t z1 h
    refine j_tabEq (pc := 8) (tgt := 54) 1 hX dX8_typeFor_8 z1 (by decide) (by decide) rfl (by decide) ?_
    refine j_aload_n (pc := 54) hX dX8_typeFor_54 rfl rfl ?_
    refine j_iload_n (pc := 55) hX dX8_typeFor_55 rfl rfl ?_
    obtain ⟨r2, c3, h1, h⟩ := bd_some h
    refine k_callVI (pc := 56) (st := []) hX ln_8_56 dX8_typeFor_56 (t_xTypist_typeForName (d := 2) (Nat.le_refl _) h1) rfl rfl rfl (by omega) (Nat.le_of_ble_eq_true rfl) ?_
    obtain ⟨h, h0⟩ := Prod.mk.inj (Option.some.inj h)
    subst h h0
    exact j_iret (pc := 59) hX hE rfl rfl dX8_typeFor_59 (Nat.le_refl 0) (Nat.le_refl 0) ⟨rfl, rfl, rfl⟩
  replace h := ite_f z1 h
  by_cases z2 : r1 = 2
  · replace h := ite_t z2 h
    refine j_tabEq (pc := 8) (tgt := 60) 2 hX dX8_typeFor_8 z2 (by decide) (by decide) rfl (by decide) ?_
    refine j_aload_n (pc := 60) hX dX8_typeFor_60 rfl rfl ?_
    refine j_iload_n (pc := 61) hX dX8_typeFor_61 rfl rfl ?_
    obtain ⟨r4, c5, h1, h⟩ := bd_some h
    refine k_callVI (pc := 62) (st := []) hX ln_8_59 dX8_typeFor_62 (i1 _ _ _ _ _ h1) rfl rfl rfl hde (Nat.le_of_ble_eq_true rfl) ?_
    obtain ⟨h, h0⟩ := Prod.mk.inj (Option.some.inj h)
    subst h h0
    exact j_iret (pc := 65) hX hE rfl rfl dX8_typeFor_65 (Nat.le_refl 0) (Nat.le_refl 0) ⟨rfl, rfl, rfl⟩
  replace h := ite_f z2 h
  by_cases z3 : r1 = 3
  · replace h := ite_t z3 h
    refine j_tabEq (pc := 8) (tgt := 66) 3 hX dX8_typeFor_8 z3 (by decide) (by decide) rfl (by decide) ?_
    refine j_aload_n (pc := 66) hX dX8_typeFor_66 rfl rfl ?_
    refine j_iload_n (pc := 67) hX dX8_typeFor_67 rfl rfl ?_
    obtain ⟨r6, c7, h1, h⟩ := bd_some h
    refine k_callVI (pc := 68) (st := []) hX ln_8_62 dX8_typeFor_68 (i3 _ _ _ _ _ h1) rfl rfl rfl hde (Nat.le_of_ble_eq_true rfl) ?_
    obtain ⟨h, h0⟩ := Prod.mk.inj (Option.some.inj h)
    subst h h0
    exact j_iret (pc := 71) hX hE rfl rfl dX8_typeFor_71 (Nat.le_refl 0) (Nat.le_refl 0) ⟨rfl, rfl, rfl⟩
  replace h := ite_f z3 h
  by_cases z4 : r1 = 4
  · replace h := ite_t z4 h
    refine j_tabEq (pc := 8) (tgt := 72) 4 hX dX8_typeFor_8 z4 (by decide) (by decide) rfl (by decide) ?_
    refine j_aload_n (pc := 72) hX dX8_typeFor_72 rfl rfl ?_
    refine j_iload_n (pc := 73) hX dX8_typeFor_73 rfl rfl ?_
    obtain ⟨r8, c9, h1, h⟩ := bd_some h
    refine k_callVI (pc := 74) (st := []) hX ln_8_65 dX8_typeFor_74 (i5 _ _ _ _ _ h1) rfl rfl rfl hde (Nat.le_of_ble_eq_true rfl) ?_
    obtain ⟨h, h0⟩ := Prod.mk.inj (Option.some.inj h)
    subst h h0
    exact j_iret (pc := 77) hX hE rfl rfl dX8_typeFor_77 (Nat.le_refl 0) (Nat.le_refl 0) ⟨rfl, rfl, rfl⟩
  replace h := ite_f z4 h
  by_cases z5 : r1 = 5
  · replace h := ite_t z5 h
    refine j_tabEq (pc := 8) (tgt := 78) 5 hX dX8_typeFor_8 z5 (by decide) (by decide) rfl (by decide) ?_
    refine j_aload_n (pc := 78) hX dX8_typeFor_78 rfl rfl ?_
    refine j_iload_n (pc := 79) hX dX8_typeFor_79 rfl rfl ?_
    obtain ⟨r10, c11, h1, h⟩ := bd_some h
    refine k_callVI (pc := 80) (st := []) hX ln_8_68 dX8_typeFor_80 (i6 _ _ _ _ _ h1) rfl rfl rfl hde (Nat.le_of_ble_eq_true rfl) ?_
    obtain ⟨h, h0⟩ := Prod.mk.inj (Option.some.inj h)
    subst h h0
    exact j_iret (pc := 83) hX hE rfl rfl dX8_typeFor_83 (Nat.le_refl 0) (Nat.le_refl 0) ⟨rfl, rfl, rfl⟩
  replace h := ite_f z5 h
  by_cases z6 : r1 = 6
  · replace h := ite_t z6 h
    refine j_tabEq (pc := 8) (tgt := 84) 6 hX dX8_typeFor_8 z6 (by decide) (by decide) rfl (by decide) ?_
    refine j_aload_n (pc := 84) hX dX8_typeFor_84 rfl rfl ?_
    refine j_iload_n (pc := 85) hX dX8_typeFor_85 rfl rfl ?_
    obtain ⟨r12, c13, h1, h⟩ := bd_some h
    refine k_callVI (pc := 86) (st := []) hX ln_8_71 dX8_typeFor_86 (i7 _ _ _ _ _ h1) rfl rfl rfl hde (Nat.le_of_ble_eq_true rfl) ?_
    obtain ⟨h, h0⟩ := Prod.mk.inj (Option.some.inj h)
    subst h h0
    exact j_iret (pc := 89) hX hE rfl rfl dX8_typeFor_89 (Nat.le_refl 0) (Nat.le_refl 0) ⟨rfl, rfl, rfl⟩
  replace h := ite_f z6 h
  refine j_tabOut (pc := 8) (tgt := 90) hX dX8_typeFor_8 (by have yz0 := lv_neT (a := 0) z0 (by decide); have yz1 := lv_neT (a := 1) z1 (by decide); have yz2 := lv_neT (a := 2) z2 (by decide); have yz3 := lv_neT (a := 3) z3 (by decide); have yz4 := lv_neT (a := 4) z4 (by decide); have yz5 := lv_neT (a := 5) z5 (by decide); have yz6 := lv_neT (a := 6) z6 (by decide); omega) (by decide) ?_
  refine j_bipush (pc := 90) (v := (-2 : Int32)) hX dX8_typeFor_90 (by decide) ?_
  obtain ⟨h, h0⟩ := Prod.mk.inj (Option.some.inj h)
  subst h h0
  exact j_iret (pc := 92) hX hE rfl rfl dX8_typeFor_92 (Nat.le_refl 0) (Nat.le_refl 0) ⟨rfl, rfl, rfl⟩

set_option maxHeartbeats 4000000 in
set_option maxRecDepth 100000 in
theorem tb_xTypist_typeForFunction {l : Launch} {D : va_G} {G : Nat → ClassId} {d : Nat} {e : Nat} {F_typeFor : jS → Int32 → Option (Int32 × jS)} {F_typeForFunction : jS → Int32 → Option (Int32 × jS)} {F_typeUnder : jS → Int32 → Int32 → Int32 → Option (Int32 × jS)} {F_typeForCall : jS → Int32 → Option (Int32 × jS)} {F_typeThatIs : jS → Int32 → Int32 → Option (Int32 × jS)} {F_typeForLet : jS → Int32 → Option (Int32 × jS)} {F_typeForSum : jS → Int32 → Option (Int32 × jS)} {F_typeForChoice : jS → Int32 → Option (Int32 × jS)} (i0 : ∀ (c r : jS) (a1 : Int32) (vE : Int32) (cE : jS), F_typeFor c a1 = some (vE, cE) → jC l D G e M_xTypist_typeFor [.ref 17, .int a1] (jmix c r) (some (.int vE)) (jmix cE r)) (i1 : ∀ (c r : jS) (a1 : Int32) (vE : Int32) (cE : jS), F_typeForFunction c a1 = some (vE, cE) → jC l D G e M_xTypist_typeForFunction [.ref 17, .int a1] (jmix c r) (some (.int vE)) (jmix cE r)) (i2 : ∀ (c r : jS) (a1 : Int32) (a2 : Int32) (a3 : Int32) (vE : Int32) (cE : jS), F_typeUnder c a1 a2 a3 = some (vE, cE) → jC l D G e M_xTypist_typeUnder [.ref 17, .int a1, .int a2, .int a3] (jmix c r) (some (.int vE)) (jmix cE r)) (i3 : ∀ (c r : jS) (a1 : Int32) (vE : Int32) (cE : jS), F_typeForCall c a1 = some (vE, cE) → jC l D G e M_xTypist_typeForCall [.ref 17, .int a1] (jmix c r) (some (.int vE)) (jmix cE r)) (i4 : ∀ (c r : jS) (a1 : Int32) (a2 : Int32) (vE : Int32) (cE : jS), F_typeThatIs c a1 a2 = some (vE, cE) → jC l D G e M_xTypist_typeThatIs [.ref 17, .int a1, .int a2] (jmix c r) (some (.int vE)) (jmix cE r)) (i5 : ∀ (c r : jS) (a1 : Int32) (vE : Int32) (cE : jS), F_typeForLet c a1 = some (vE, cE) → jC l D G e M_xTypist_typeForLet [.ref 17, .int a1] (jmix c r) (some (.int vE)) (jmix cE r)) (i6 : ∀ (c r : jS) (a1 : Int32) (vE : Int32) (cE : jS), F_typeForSum c a1 = some (vE, cE) → jC l D G e M_xTypist_typeForSum [.ref 17, .int a1] (jmix c r) (some (.int vE)) (jmix cE r)) (i7 : ∀ (c r : jS) (a1 : Int32) (vE : Int32) (cE : jS), F_typeForChoice c a1 = some (vE, cE) → jC l D G e M_xTypist_typeForChoice [.ref 17, .int a1] (jmix c r) (some (.int vE)) (jmix cE r)) (hdp : 3 ≤ d) (hde : e + 1 ≤ d) {c r : jS} {a1 : Int32} {vE : Int32} {cE : jS} (h : b_xTypist_typeForFunction F_typeFor F_typeForFunction F_typeUnder F_typeForCall F_typeThatIs F_typeForLet F_typeForSum F_typeForChoice c a1 = some (vE, cE)) : jC l D G d M_xTypist_typeForFunction [.ref 17, .int a1] (jmix c r) (some (.int vE)) (jmix cE r) := by
  refine jM_of rfl (Nat.le_of_ble_eq_true rfl) ?_
  intro X hl hD hG _ _ hX hE _
  subst hl hD hG
  unfold b_xTypist_typeForFunction at h
  show J X 0 0 jN (jE (jmix c r)) [(0, .ref 17), (1, .int a1)] [] 0
  refine j_aload_n (pc := 0) hX dX8_typeForFunction_0 rfl rfl ?_
  refine k_getR (pc := 1) (q := 5) hX fl_8_22 dX8_typeForFunction_1 rfl rfl ?_
  refine j_iload_n (pc := 4) hX dX8_typeForFunction_4 rfl rfl ?_
  obtain ⟨r1, h1, h⟩ := ob_some h
  refine k_callVI (pc := 5) (st := []) hX ln_8_84 dX8_typeForFunction_5 (t_xTerms_typeOf (d := 1) (Nat.le_refl _) h1) rfl rfl rfl (by omega) (Nat.le_of_ble_eq_true rfl) ?_
  refine j_istore_n (pc := 8) hX dX8_typeForFunction_8 rfl (by decide) (by decide) ?_
  refine j_aload_n (pc := 9) hX dX8_typeForFunction_9 rfl rfl ?_
  refine j_aload_n (pc := 10) hX dX8_typeForFunction_10 rfl rfl ?_
  refine k_getR (pc := 11) (q := 5) hX fl_8_22 dX8_typeForFunction_11 rfl rfl ?_
  refine j_iload_n (pc := 14) hX dX8_typeForFunction_14 rfl rfl ?_
  obtain ⟨r2, h1, h⟩ := ob_some h
  refine k_callVI (pc := 15) (st := [.ref 17]) hX ln_8_74 dX8_typeForFunction_15 (t_xTerms_letterOf (d := 1) (Nat.le_refl _) h1) rfl rfl rfl (by omega) (Nat.le_of_ble_eq_true rfl) ?_
  refine j_iload_n (pc := 18) hX dX8_typeForFunction_18 rfl rfl ?_
  refine j_aload_n (pc := 19) hX dX8_typeForFunction_19 rfl rfl ?_
  refine k_getR (pc := 20) (q := 5) hX fl_8_22 dX8_typeForFunction_20 rfl rfl ?_
  refine j_iload_n (pc := 23) hX dX8_typeForFunction_23 rfl rfl ?_
  obtain ⟨r3, h1, h⟩ := ob_some h
  refine k_callVI (pc := 24) (st := [.int r1, .int r2, .ref 17]) hX ln_8_87 dX8_typeForFunction_24 (t_xTerms_firstOf (d := 1) (Nat.le_refl _) h1) rfl rfl rfl (by omega) (Nat.le_of_ble_eq_true rfl) ?_
  obtain ⟨r4, c5, h1, h⟩ := bd_some h
  refine k_callVI (pc := 27) (st := []) hX ln_8_90 dX8_typeForFunction_27 (i2 _ _ _ _ _ _ _ h1) rfl rfl rfl hde (Nat.le_of_ble_eq_true rfl) ?_
  refine j_istore_n (pc := 30) hX dX8_typeForFunction_30 rfl (by decide) (by decide) ?_
  refine j_iload_n (pc := 31) hX dX8_typeForFunction_31 rfl rfl ?_
  refine j_if_ge (pc := 32) (tgt := 39) hX dX8_typeForFunction_32 (by decide) (fun z => ?_) (fun z => ?_)
  · replace h := ite_t z h
    refine j_aload_n (pc := 39) hX dX8_typeForFunction_39 rfl rfl ?_
    refine k_getR (pc := 40) (q := 1) hX fl_8_18 dX8_typeForFunction_40 rfl rfl ?_
    refine j_iload_n (pc := 43) hX dX8_typeForFunction_43 rfl rfl ?_
    refine j_iload_n (pc := 44) hX dX8_typeForFunction_44 rfl rfl ?_
    obtain ⟨r6, c7, h1, h⟩ := bd_some h
    refine k_callVI (pc := 45) (st := []) hX ln_8_94 dX8_typeForFunction_45 (t_xTypes_arrowOf (d := 2) (Nat.le_refl _) h1) rfl rfl rfl (by omega) (Nat.le_of_ble_eq_true rfl) ?_
    obtain ⟨h, h0⟩ := Prod.mk.inj (Option.some.inj h)
    subst h h0
    exact j_iret (pc := 48) hX hE rfl rfl dX8_typeForFunction_48 (Nat.le_refl 0) (Nat.le_refl 0) ⟨rfl, rfl, rfl⟩
  · replace h := ite_f z h
    refine j_iload_n (pc := 35) hX dX8_typeForFunction_35 rfl rfl ?_
    refine j_goto (pc := 36) (tgt := 48) hX dX8_typeForFunction_36 (by decide) ?_
    obtain ⟨h, h0⟩ := Prod.mk.inj (Option.some.inj h)
    subst h h0
    exact j_iret (pc := 48) hX hE rfl rfl dX8_typeForFunction_48 (Nat.le_refl 0) (Nat.le_refl 0) ⟨rfl, rfl, rfl⟩

set_option maxHeartbeats 4000000 in
set_option maxRecDepth 100000 in
theorem tb_xTypist_typeUnder {l : Launch} {D : va_G} {G : Nat → ClassId} {d : Nat} {e : Nat} {F_typeFor : jS → Int32 → Option (Int32 × jS)} {F_typeForFunction : jS → Int32 → Option (Int32 × jS)} {F_typeUnder : jS → Int32 → Int32 → Int32 → Option (Int32 × jS)} {F_typeForCall : jS → Int32 → Option (Int32 × jS)} {F_typeThatIs : jS → Int32 → Int32 → Option (Int32 × jS)} {F_typeForLet : jS → Int32 → Option (Int32 × jS)} {F_typeForSum : jS → Int32 → Option (Int32 × jS)} {F_typeForChoice : jS → Int32 → Option (Int32 × jS)} (i0 : ∀ (c r : jS) (a1 : Int32) (vE : Int32) (cE : jS), F_typeFor c a1 = some (vE, cE) → jC l D G e M_xTypist_typeFor [.ref 17, .int a1] (jmix c r) (some (.int vE)) (jmix cE r)) (i1 : ∀ (c r : jS) (a1 : Int32) (vE : Int32) (cE : jS), F_typeForFunction c a1 = some (vE, cE) → jC l D G e M_xTypist_typeForFunction [.ref 17, .int a1] (jmix c r) (some (.int vE)) (jmix cE r)) (i2 : ∀ (c r : jS) (a1 : Int32) (a2 : Int32) (a3 : Int32) (vE : Int32) (cE : jS), F_typeUnder c a1 a2 a3 = some (vE, cE) → jC l D G e M_xTypist_typeUnder [.ref 17, .int a1, .int a2, .int a3] (jmix c r) (some (.int vE)) (jmix cE r)) (i3 : ∀ (c r : jS) (a1 : Int32) (vE : Int32) (cE : jS), F_typeForCall c a1 = some (vE, cE) → jC l D G e M_xTypist_typeForCall [.ref 17, .int a1] (jmix c r) (some (.int vE)) (jmix cE r)) (i4 : ∀ (c r : jS) (a1 : Int32) (a2 : Int32) (vE : Int32) (cE : jS), F_typeThatIs c a1 a2 = some (vE, cE) → jC l D G e M_xTypist_typeThatIs [.ref 17, .int a1, .int a2] (jmix c r) (some (.int vE)) (jmix cE r)) (i5 : ∀ (c r : jS) (a1 : Int32) (vE : Int32) (cE : jS), F_typeForLet c a1 = some (vE, cE) → jC l D G e M_xTypist_typeForLet [.ref 17, .int a1] (jmix c r) (some (.int vE)) (jmix cE r)) (i6 : ∀ (c r : jS) (a1 : Int32) (vE : Int32) (cE : jS), F_typeForSum c a1 = some (vE, cE) → jC l D G e M_xTypist_typeForSum [.ref 17, .int a1] (jmix c r) (some (.int vE)) (jmix cE r)) (i7 : ∀ (c r : jS) (a1 : Int32) (vE : Int32) (cE : jS), F_typeForChoice c a1 = some (vE, cE) → jC l D G e M_xTypist_typeForChoice [.ref 17, .int a1] (jmix c r) (some (.int vE)) (jmix cE r)) (hdp : 3 ≤ d) (hde : e + 1 ≤ d) {c r : jS} {a1 : Int32} {a2 : Int32} {a3 : Int32} {vE : Int32} {cE : jS} (h : b_xTypist_typeUnder F_typeFor F_typeForFunction F_typeUnder F_typeForCall F_typeThatIs F_typeForLet F_typeForSum F_typeForChoice c a1 a2 a3 = some (vE, cE)) : jC l D G d M_xTypist_typeUnder [.ref 17, .int a1, .int a2, .int a3] (jmix c r) (some (.int vE)) (jmix cE r) := by
  refine jM_of rfl (Nat.le_of_ble_eq_true rfl) ?_
  intro X hl hD hG _ _ hX hE _
  subst hl hD hG
  unfold b_xTypist_typeUnder at h
  show J X 0 0 jN (jE (jmix c r)) [(0, .ref 17), (1, .int a1), (2, .int a2), (3, .int a3)] [] 0
  refine j_aload_n (pc := 0) hX dX8_typeUnder_0 rfl rfl ?_
  refine j_iload_n (pc := 1) hX dX8_typeUnder_1 rfl rfl ?_
  obtain ⟨r1, h1, h⟩ := ob_some h
  refine k_callVI (pc := 2) (st := []) hX ln_8_77 dX8_typeUnder_2 (t_xTypist_knownOf (d := 1) (Nat.le_refl _) h1) rfl rfl rfl (by omega) (Nat.le_of_ble_eq_true rfl) ?_
  refine j_istore (pc := 5) hX dX8_typeUnder_5 (by decide) (by decide) ?_
  refine j_aload_n (pc := 7) hX dX8_typeUnder_7 rfl rfl ?_
  refine j_iload_n (pc := 8) hX dX8_typeUnder_8 rfl rfl ?_
  refine j_iload_n (pc := 9) hX dX8_typeUnder_9 rfl rfl ?_
  obtain ⟨_u, c2, h1, h⟩ := bd_some h
  refine k_callVV (pc := 10) (st := []) hX ln_8_112 dX8_typeUnder_10 (t_xTypist_setKnown (d := 1) (Nat.le_refl _) h1) rfl rfl rfl (by omega) (Nat.le_of_ble_eq_true rfl) ?_
  refine j_aload_n (pc := 13) hX dX8_typeUnder_13 rfl rfl ?_
  refine j_iload_n (pc := 14) hX dX8_typeUnder_14 rfl rfl ?_
  obtain ⟨r3, c4, h1, h⟩ := bd_some h
  refine k_callVI (pc := 15) (st := []) hX ln_8_43 dX8_typeUnder_15 (i0 _ _ _ _ _ h1) rfl rfl rfl hde (Nat.le_of_ble_eq_true rfl) ?_
  refine j_istore (pc := 18) hX dX8_typeUnder_18 (by decide) (by decide) ?_
  refine j_aload_n (pc := 20) hX dX8_typeUnder_20 rfl rfl ?_
  refine j_iload_n (pc := 21) hX dX8_typeUnder_21 rfl rfl ?_
  refine j_iload (pc := 22) hX dX8_typeUnder_22 rfl ?_
  obtain ⟨_u, c5, h1, h⟩ := bd_some h
  refine k_callVV (pc := 24) (st := []) hX ln_8_112 dX8_typeUnder_24 (t_xTypist_setKnown (d := 1) (Nat.le_refl _) h1) rfl rfl rfl (by omega) (Nat.le_of_ble_eq_true rfl) ?_
  refine j_iload (pc := 27) hX dX8_typeUnder_27 rfl ?_
  obtain ⟨h, h0⟩ := Prod.mk.inj (Option.some.inj h)
  subst h h0
  exact j_iret (pc := 29) hX hE rfl rfl dX8_typeUnder_29 (Nat.le_refl 0) (Nat.le_refl 0) ⟨rfl, rfl, rfl⟩

set_option maxHeartbeats 4000000 in
set_option maxRecDepth 100000 in
theorem tb_xTypist_typeForCall {l : Launch} {D : va_G} {G : Nat → ClassId} {d : Nat} {e : Nat} {F_typeFor : jS → Int32 → Option (Int32 × jS)} {F_typeForFunction : jS → Int32 → Option (Int32 × jS)} {F_typeUnder : jS → Int32 → Int32 → Int32 → Option (Int32 × jS)} {F_typeForCall : jS → Int32 → Option (Int32 × jS)} {F_typeThatIs : jS → Int32 → Int32 → Option (Int32 × jS)} {F_typeForLet : jS → Int32 → Option (Int32 × jS)} {F_typeForSum : jS → Int32 → Option (Int32 × jS)} {F_typeForChoice : jS → Int32 → Option (Int32 × jS)} (i0 : ∀ (c r : jS) (a1 : Int32) (vE : Int32) (cE : jS), F_typeFor c a1 = some (vE, cE) → jC l D G e M_xTypist_typeFor [.ref 17, .int a1] (jmix c r) (some (.int vE)) (jmix cE r)) (i1 : ∀ (c r : jS) (a1 : Int32) (vE : Int32) (cE : jS), F_typeForFunction c a1 = some (vE, cE) → jC l D G e M_xTypist_typeForFunction [.ref 17, .int a1] (jmix c r) (some (.int vE)) (jmix cE r)) (i2 : ∀ (c r : jS) (a1 : Int32) (a2 : Int32) (a3 : Int32) (vE : Int32) (cE : jS), F_typeUnder c a1 a2 a3 = some (vE, cE) → jC l D G e M_xTypist_typeUnder [.ref 17, .int a1, .int a2, .int a3] (jmix c r) (some (.int vE)) (jmix cE r)) (i3 : ∀ (c r : jS) (a1 : Int32) (vE : Int32) (cE : jS), F_typeForCall c a1 = some (vE, cE) → jC l D G e M_xTypist_typeForCall [.ref 17, .int a1] (jmix c r) (some (.int vE)) (jmix cE r)) (i4 : ∀ (c r : jS) (a1 : Int32) (a2 : Int32) (vE : Int32) (cE : jS), F_typeThatIs c a1 a2 = some (vE, cE) → jC l D G e M_xTypist_typeThatIs [.ref 17, .int a1, .int a2] (jmix c r) (some (.int vE)) (jmix cE r)) (i5 : ∀ (c r : jS) (a1 : Int32) (vE : Int32) (cE : jS), F_typeForLet c a1 = some (vE, cE) → jC l D G e M_xTypist_typeForLet [.ref 17, .int a1] (jmix c r) (some (.int vE)) (jmix cE r)) (i6 : ∀ (c r : jS) (a1 : Int32) (vE : Int32) (cE : jS), F_typeForSum c a1 = some (vE, cE) → jC l D G e M_xTypist_typeForSum [.ref 17, .int a1] (jmix c r) (some (.int vE)) (jmix cE r)) (i7 : ∀ (c r : jS) (a1 : Int32) (vE : Int32) (cE : jS), F_typeForChoice c a1 = some (vE, cE) → jC l D G e M_xTypist_typeForChoice [.ref 17, .int a1] (jmix c r) (some (.int vE)) (jmix cE r)) (hdp : 3 ≤ d) (hde : e + 1 ≤ d) {c r : jS} {a1 : Int32} {vE : Int32} {cE : jS} (h : b_xTypist_typeForCall F_typeFor F_typeForFunction F_typeUnder F_typeForCall F_typeThatIs F_typeForLet F_typeForSum F_typeForChoice c a1 = some (vE, cE)) : jC l D G d M_xTypist_typeForCall [.ref 17, .int a1] (jmix c r) (some (.int vE)) (jmix cE r) := by
  refine jM_of rfl (Nat.le_of_ble_eq_true rfl) ?_
  intro X hl hD hG _ _ hX hE _
  subst hl hD hG
  unfold b_xTypist_typeForCall at h
  show J X 0 0 jN (jE (jmix c r)) [(0, .ref 17), (1, .int a1)] [] 0
  refine j_aload_n (pc := 0) hX dX8_typeForCall_0 rfl rfl ?_
  refine k_getR (pc := 1) (q := 5) hX fl_8_22 dX8_typeForCall_1 rfl rfl ?_
  refine j_iload_n (pc := 4) hX dX8_typeForCall_4 rfl rfl ?_
  obtain ⟨r1, h1, h⟩ := ob_some h
  refine k_callVI (pc := 5) (st := []) hX ln_8_87 dX8_typeForCall_5 (t_xTerms_firstOf (d := 1) (Nat.le_refl _) h1) rfl rfl rfl (by omega) (Nat.le_of_ble_eq_true rfl) ?_
  refine j_istore_n (pc := 8) hX dX8_typeForCall_8 rfl (by decide) (by decide) ?_
  refine j_aload_n (pc := 9) hX dX8_typeForCall_9 rfl rfl ?_
  refine j_iload_n (pc := 10) hX dX8_typeForCall_10 rfl rfl ?_
  obtain ⟨r2, c3, h1, h⟩ := bd_some h
  refine k_callVI (pc := 11) (st := []) hX ln_8_43 dX8_typeForCall_11 (i0 _ _ _ _ _ h1) rfl rfl rfl hde (Nat.le_of_ble_eq_true rfl) ?_
  refine j_istore_n (pc := 14) hX dX8_typeForCall_14 rfl (by decide) (by decide) ?_
  refine j_iload_n (pc := 15) hX dX8_typeForCall_15 rfl rfl ?_
  refine j_if_ge (pc := 16) (tgt := 21) hX dX8_typeForCall_16 (by decide) (fun z => ?_) (fun z => ?_)
  · replace h := ite_t z h
    refine j_iload_n (pc := 21) hX dX8_typeForCall_21 rfl rfl ?_
    refine j_if_ne (pc := 22) (tgt := 32) hX dX8_typeForCall_22 (by decide) (fun z => ?_) (fun z => ?_)
    · replace h := ite_f z h
      refine j_aload_n (pc := 32) hX dX8_typeForCall_32 rfl rfl ?_
      refine j_aload_n (pc := 33) hX dX8_typeForCall_33 rfl rfl ?_
      refine k_getR (pc := 34) (q := 1) hX fl_8_18 dX8_typeForCall_34 rfl rfl ?_
      refine j_iload_n (pc := 37) hX dX8_typeForCall_37 rfl rfl ?_
      obtain ⟨r4, h1, h⟩ := ob_some h
      refine k_callVI (pc := 38) (st := [.ref 17]) hX ln_8_97 dX8_typeForCall_38 (t_xTypes_fromOf (d := 1) (Nat.le_refl _) h1) rfl rfl rfl (by omega) (Nat.le_of_ble_eq_true rfl) ?_
      refine j_aload_n (pc := 41) hX dX8_typeForCall_41 rfl rfl ?_
      refine k_getR (pc := 42) (q := 5) hX fl_8_22 dX8_typeForCall_42 rfl rfl ?_
      refine j_iload_n (pc := 45) hX dX8_typeForCall_45 rfl rfl ?_
      obtain ⟨r5, h1, h⟩ := ob_some h
      refine k_callVI (pc := 46) (st := [.int r4, .ref 17]) hX ln_8_100 dX8_typeForCall_46 (t_xTerms_secondOf (d := 1) (Nat.le_refl _) h1) rfl rfl rfl (by omega) (Nat.le_of_ble_eq_true rfl) ?_
      obtain ⟨r6, c7, h1, h⟩ := bd_some h
      refine k_callVI (pc := 49) (st := []) hX ln_8_103 dX8_typeForCall_49 (i4 _ _ _ _ _ _ h1) rfl rfl rfl hde (Nat.le_of_ble_eq_true rfl) ?_
      refine j_istore (pc := 52) hX dX8_typeForCall_52 (by decide) (by decide) ?_
      refine j_iload (pc := 54) hX dX8_typeForCall_54 rfl ?_
      refine j_if_ge (pc := 56) (tgt := 64) hX dX8_typeForCall_56 (by decide) (fun z => ?_) (fun z => ?_)
      · replace h := ite_t z h
        refine j_aload_n (pc := 64) hX dX8_typeForCall_64 rfl rfl ?_
        refine k_getR (pc := 65) (q := 1) hX fl_8_18 dX8_typeForCall_65 rfl rfl ?_
        refine j_iload_n (pc := 68) hX dX8_typeForCall_68 rfl rfl ?_
        obtain ⟨r8, h1, h⟩ := ob_some h
        refine k_callVI (pc := 69) (st := []) hX ln_8_106 dX8_typeForCall_69 (t_xTypes_toOf (d := 1) (Nat.le_refl _) h1) rfl rfl rfl (by omega) (Nat.le_of_ble_eq_true rfl) ?_
        obtain ⟨h, h0⟩ := Prod.mk.inj (Option.some.inj h)
        subst h h0
        exact j_iret (pc := 72) hX hE rfl rfl dX8_typeForCall_72 (Nat.le_refl 0) (Nat.le_refl 0) ⟨rfl, rfl, rfl⟩
      · replace h := ite_f z h
        refine j_iload (pc := 59) hX dX8_typeForCall_59 rfl ?_
        refine j_goto (pc := 61) (tgt := 72) hX dX8_typeForCall_61 (by decide) ?_
        obtain ⟨h, h0⟩ := Prod.mk.inj (Option.some.inj h)
        subst h h0
        exact j_iret (pc := 72) hX hE rfl rfl dX8_typeForCall_72 (Nat.le_refl 0) (Nat.le_refl 0) ⟨rfl, rfl, rfl⟩
    · replace h := ite_t z h
      refine j_aload_n (pc := 25) hX dX8_typeForCall_25 rfl rfl ?_
      refine j_iconst (pc := 26) (v := (2 : Int32)) hX dX8_typeForCall_26 (by decide) ?_
      refine j_iload_n (pc := 27) hX dX8_typeForCall_27 rfl rfl ?_
      obtain ⟨r9, c10, h1, h⟩ := bd_some h
      refine k_callVI (pc := 28) (st := []) hX ln_8_80 dX8_typeForCall_28 (t_xTypist_faulty (d := 0) (Nat.le_refl _) h1) rfl rfl rfl (by omega) (Nat.le_of_ble_eq_true rfl) ?_
      obtain ⟨h, h0⟩ := Prod.mk.inj (Option.some.inj h)
      subst h h0
      exact j_iret (pc := 31) hX hE rfl rfl dX8_typeForCall_31 (Nat.le_refl 0) (Nat.le_refl 0) ⟨rfl, rfl, rfl⟩
  · replace h := ite_f z h
    refine j_iload_n (pc := 19) hX dX8_typeForCall_19 rfl rfl ?_
    obtain ⟨h, h0⟩ := Prod.mk.inj (Option.some.inj h)
    subst h h0
    exact j_iret (pc := 20) hX hE rfl rfl dX8_typeForCall_20 (Nat.le_refl 0) (Nat.le_refl 0) ⟨rfl, rfl, rfl⟩

set_option maxHeartbeats 4000000 in
set_option maxRecDepth 100000 in
theorem tb_xTypist_typeThatIs {l : Launch} {D : va_G} {G : Nat → ClassId} {d : Nat} {e : Nat} {F_typeFor : jS → Int32 → Option (Int32 × jS)} {F_typeForFunction : jS → Int32 → Option (Int32 × jS)} {F_typeUnder : jS → Int32 → Int32 → Int32 → Option (Int32 × jS)} {F_typeForCall : jS → Int32 → Option (Int32 × jS)} {F_typeThatIs : jS → Int32 → Int32 → Option (Int32 × jS)} {F_typeForLet : jS → Int32 → Option (Int32 × jS)} {F_typeForSum : jS → Int32 → Option (Int32 × jS)} {F_typeForChoice : jS → Int32 → Option (Int32 × jS)} (i0 : ∀ (c r : jS) (a1 : Int32) (vE : Int32) (cE : jS), F_typeFor c a1 = some (vE, cE) → jC l D G e M_xTypist_typeFor [.ref 17, .int a1] (jmix c r) (some (.int vE)) (jmix cE r)) (i1 : ∀ (c r : jS) (a1 : Int32) (vE : Int32) (cE : jS), F_typeForFunction c a1 = some (vE, cE) → jC l D G e M_xTypist_typeForFunction [.ref 17, .int a1] (jmix c r) (some (.int vE)) (jmix cE r)) (i2 : ∀ (c r : jS) (a1 : Int32) (a2 : Int32) (a3 : Int32) (vE : Int32) (cE : jS), F_typeUnder c a1 a2 a3 = some (vE, cE) → jC l D G e M_xTypist_typeUnder [.ref 17, .int a1, .int a2, .int a3] (jmix c r) (some (.int vE)) (jmix cE r)) (i3 : ∀ (c r : jS) (a1 : Int32) (vE : Int32) (cE : jS), F_typeForCall c a1 = some (vE, cE) → jC l D G e M_xTypist_typeForCall [.ref 17, .int a1] (jmix c r) (some (.int vE)) (jmix cE r)) (i4 : ∀ (c r : jS) (a1 : Int32) (a2 : Int32) (vE : Int32) (cE : jS), F_typeThatIs c a1 a2 = some (vE, cE) → jC l D G e M_xTypist_typeThatIs [.ref 17, .int a1, .int a2] (jmix c r) (some (.int vE)) (jmix cE r)) (i5 : ∀ (c r : jS) (a1 : Int32) (vE : Int32) (cE : jS), F_typeForLet c a1 = some (vE, cE) → jC l D G e M_xTypist_typeForLet [.ref 17, .int a1] (jmix c r) (some (.int vE)) (jmix cE r)) (i6 : ∀ (c r : jS) (a1 : Int32) (vE : Int32) (cE : jS), F_typeForSum c a1 = some (vE, cE) → jC l D G e M_xTypist_typeForSum [.ref 17, .int a1] (jmix c r) (some (.int vE)) (jmix cE r)) (i7 : ∀ (c r : jS) (a1 : Int32) (vE : Int32) (cE : jS), F_typeForChoice c a1 = some (vE, cE) → jC l D G e M_xTypist_typeForChoice [.ref 17, .int a1] (jmix c r) (some (.int vE)) (jmix cE r)) (hdp : 3 ≤ d) (hde : e + 1 ≤ d) {c r : jS} {a1 : Int32} {a2 : Int32} {vE : Int32} {cE : jS} (h : b_xTypist_typeThatIs F_typeFor F_typeForFunction F_typeUnder F_typeForCall F_typeThatIs F_typeForLet F_typeForSum F_typeForChoice c a1 a2 = some (vE, cE)) : jC l D G d M_xTypist_typeThatIs [.ref 17, .int a1, .int a2] (jmix c r) (some (.int vE)) (jmix cE r) := by
  refine jM_of rfl (Nat.le_of_ble_eq_true rfl) ?_
  intro X hl hD hG _ _ hX hE _
  subst hl hD hG
  unfold b_xTypist_typeThatIs at h
  show J X 0 0 jN (jE (jmix c r)) [(0, .ref 17), (1, .int a1), (2, .int a2)] [] 0
  refine j_aload_n (pc := 0) hX dX8_typeThatIs_0 rfl rfl ?_
  refine j_iload_n (pc := 1) hX dX8_typeThatIs_1 rfl rfl ?_
  obtain ⟨r1, c2, h1, h⟩ := bd_some h
  refine k_callVI (pc := 2) (st := []) hX ln_8_43 dX8_typeThatIs_2 (i0 _ _ _ _ _ h1) rfl rfl rfl hde (Nat.le_of_ble_eq_true rfl) ?_
  refine j_istore_n (pc := 5) hX dX8_typeThatIs_5 rfl (by decide) (by decide) ?_
  refine j_iload_n (pc := 6) hX dX8_typeThatIs_6 rfl rfl ?_
  refine j_if_lt (pc := 7) (tgt := 15) hX dX8_typeThatIs_7 (by decide) (fun z => ?_) (fun z => ?_)
  · replace h := ite_t z h
    refine j_iload_n (pc := 15) hX dX8_typeThatIs_15 rfl rfl ?_
    refine j_goto (pc := 16) (tgt := 25) hX dX8_typeThatIs_16 (by decide) ?_
    obtain ⟨h, h0⟩ := Prod.mk.inj (Option.some.inj h)
    subst h h0
    exact j_iret (pc := 25) hX hE rfl rfl dX8_typeThatIs_25 (Nat.le_refl 0) (Nat.le_refl 0) ⟨rfl, rfl, rfl⟩
  · replace h := ite_f z h
    refine j_iload_n (pc := 10) hX dX8_typeThatIs_10 rfl rfl ?_
    refine j_iload_n (pc := 11) hX dX8_typeThatIs_11 rfl rfl ?_
    refine j_icmp_ne (pc := 12) (tgt := 19) hX dX8_typeThatIs_12 (by decide) (fun z => ?_) (fun z => ?_)
    · replace h := ite_f z h
      refine j_aload_n (pc := 19) hX dX8_typeThatIs_19 rfl rfl ?_
      refine j_iconst (pc := 20) (v := (3 : Int32)) hX dX8_typeThatIs_20 (by decide) ?_
      refine j_iload_n (pc := 21) hX dX8_typeThatIs_21 rfl rfl ?_
      obtain ⟨r3, c4, h1, h⟩ := bd_some h
      refine k_callVI (pc := 22) (st := []) hX ln_8_80 dX8_typeThatIs_22 (t_xTypist_faulty (d := 0) (Nat.le_refl _) h1) rfl rfl rfl (by omega) (Nat.le_of_ble_eq_true rfl) ?_
      obtain ⟨h, h0⟩ := Prod.mk.inj (Option.some.inj h)
      subst h h0
      exact j_iret (pc := 25) hX hE rfl rfl dX8_typeThatIs_25 (Nat.le_refl 0) (Nat.le_refl 0) ⟨rfl, rfl, rfl⟩
    · replace h := ite_t z h
      refine j_iload_n (pc := 15) hX dX8_typeThatIs_15 rfl rfl ?_
      refine j_goto (pc := 16) (tgt := 25) hX dX8_typeThatIs_16 (by decide) ?_
      obtain ⟨h, h0⟩ := Prod.mk.inj (Option.some.inj h)
      subst h h0
      exact j_iret (pc := 25) hX hE rfl rfl dX8_typeThatIs_25 (Nat.le_refl 0) (Nat.le_refl 0) ⟨rfl, rfl, rfl⟩

set_option maxHeartbeats 4000000 in
set_option maxRecDepth 100000 in
theorem tb_xTypist_typeForLet {l : Launch} {D : va_G} {G : Nat → ClassId} {d : Nat} {e : Nat} {F_typeFor : jS → Int32 → Option (Int32 × jS)} {F_typeForFunction : jS → Int32 → Option (Int32 × jS)} {F_typeUnder : jS → Int32 → Int32 → Int32 → Option (Int32 × jS)} {F_typeForCall : jS → Int32 → Option (Int32 × jS)} {F_typeThatIs : jS → Int32 → Int32 → Option (Int32 × jS)} {F_typeForLet : jS → Int32 → Option (Int32 × jS)} {F_typeForSum : jS → Int32 → Option (Int32 × jS)} {F_typeForChoice : jS → Int32 → Option (Int32 × jS)} (i0 : ∀ (c r : jS) (a1 : Int32) (vE : Int32) (cE : jS), F_typeFor c a1 = some (vE, cE) → jC l D G e M_xTypist_typeFor [.ref 17, .int a1] (jmix c r) (some (.int vE)) (jmix cE r)) (i1 : ∀ (c r : jS) (a1 : Int32) (vE : Int32) (cE : jS), F_typeForFunction c a1 = some (vE, cE) → jC l D G e M_xTypist_typeForFunction [.ref 17, .int a1] (jmix c r) (some (.int vE)) (jmix cE r)) (i2 : ∀ (c r : jS) (a1 : Int32) (a2 : Int32) (a3 : Int32) (vE : Int32) (cE : jS), F_typeUnder c a1 a2 a3 = some (vE, cE) → jC l D G e M_xTypist_typeUnder [.ref 17, .int a1, .int a2, .int a3] (jmix c r) (some (.int vE)) (jmix cE r)) (i3 : ∀ (c r : jS) (a1 : Int32) (vE : Int32) (cE : jS), F_typeForCall c a1 = some (vE, cE) → jC l D G e M_xTypist_typeForCall [.ref 17, .int a1] (jmix c r) (some (.int vE)) (jmix cE r)) (i4 : ∀ (c r : jS) (a1 : Int32) (a2 : Int32) (vE : Int32) (cE : jS), F_typeThatIs c a1 a2 = some (vE, cE) → jC l D G e M_xTypist_typeThatIs [.ref 17, .int a1, .int a2] (jmix c r) (some (.int vE)) (jmix cE r)) (i5 : ∀ (c r : jS) (a1 : Int32) (vE : Int32) (cE : jS), F_typeForLet c a1 = some (vE, cE) → jC l D G e M_xTypist_typeForLet [.ref 17, .int a1] (jmix c r) (some (.int vE)) (jmix cE r)) (i6 : ∀ (c r : jS) (a1 : Int32) (vE : Int32) (cE : jS), F_typeForSum c a1 = some (vE, cE) → jC l D G e M_xTypist_typeForSum [.ref 17, .int a1] (jmix c r) (some (.int vE)) (jmix cE r)) (i7 : ∀ (c r : jS) (a1 : Int32) (vE : Int32) (cE : jS), F_typeForChoice c a1 = some (vE, cE) → jC l D G e M_xTypist_typeForChoice [.ref 17, .int a1] (jmix c r) (some (.int vE)) (jmix cE r)) (hdp : 3 ≤ d) (hde : e + 1 ≤ d) {c r : jS} {a1 : Int32} {vE : Int32} {cE : jS} (h : b_xTypist_typeForLet F_typeFor F_typeForFunction F_typeUnder F_typeForCall F_typeThatIs F_typeForLet F_typeForSum F_typeForChoice c a1 = some (vE, cE)) : jC l D G d M_xTypist_typeForLet [.ref 17, .int a1] (jmix c r) (some (.int vE)) (jmix cE r) := by
  refine jM_of rfl (Nat.le_of_ble_eq_true rfl) ?_
  intro X hl hD hG _ _ hX hE _
  subst hl hD hG
  unfold b_xTypist_typeForLet at h
  show J X 0 0 jN (jE (jmix c r)) [(0, .ref 17), (1, .int a1)] [] 0
  refine j_aload_n (pc := 0) hX dX8_typeForLet_0 rfl rfl ?_
  refine j_aload_n (pc := 1) hX dX8_typeForLet_1 rfl rfl ?_
  refine k_getR (pc := 2) (q := 5) hX fl_8_22 dX8_typeForLet_2 rfl rfl ?_
  refine j_iload_n (pc := 5) hX dX8_typeForLet_5 rfl rfl ?_
  obtain ⟨r1, h1, h⟩ := ob_some h
  refine k_callVI (pc := 6) (st := [.ref 17]) hX ln_8_87 dX8_typeForLet_6 (t_xTerms_firstOf (d := 1) (Nat.le_refl _) h1) rfl rfl rfl (by omega) (Nat.le_of_ble_eq_true rfl) ?_
  obtain ⟨r2, c3, h1, h⟩ := bd_some h
  refine k_callVI (pc := 9) (st := []) hX ln_8_43 dX8_typeForLet_9 (i0 _ _ _ _ _ h1) rfl rfl rfl hde (Nat.le_of_ble_eq_true rfl) ?_
  refine j_istore_n (pc := 12) hX dX8_typeForLet_12 rfl (by decide) (by decide) ?_
  refine j_iload_n (pc := 13) hX dX8_typeForLet_13 rfl rfl ?_
  refine j_if_ge (pc := 14) (tgt := 21) hX dX8_typeForLet_14 (by decide) (fun z => ?_) (fun z => ?_)
  · replace h := ite_t z h
    refine j_aload_n (pc := 21) hX dX8_typeForLet_21 rfl rfl ?_
    refine j_aload_n (pc := 22) hX dX8_typeForLet_22 rfl rfl ?_
    refine k_getR (pc := 23) (q := 5) hX fl_8_22 dX8_typeForLet_23 rfl rfl ?_
    refine j_iload_n (pc := 26) hX dX8_typeForLet_26 rfl rfl ?_
    obtain ⟨r4, h1, h⟩ := ob_some h
    refine k_callVI (pc := 27) (st := [.ref 17]) hX ln_8_74 dX8_typeForLet_27 (t_xTerms_letterOf (d := 1) (Nat.le_refl _) h1) rfl rfl rfl (by omega) (Nat.le_of_ble_eq_true rfl) ?_
    refine j_iload_n (pc := 30) hX dX8_typeForLet_30 rfl rfl ?_
    refine j_aload_n (pc := 31) hX dX8_typeForLet_31 rfl rfl ?_
    refine k_getR (pc := 32) (q := 5) hX fl_8_22 dX8_typeForLet_32 rfl rfl ?_
    refine j_iload_n (pc := 35) hX dX8_typeForLet_35 rfl rfl ?_
    obtain ⟨r5, h1, h⟩ := ob_some h
    refine k_callVI (pc := 36) (st := [.int r2, .int r4, .ref 17]) hX ln_8_100 dX8_typeForLet_36 (t_xTerms_secondOf (d := 1) (Nat.le_refl _) h1) rfl rfl rfl (by omega) (Nat.le_of_ble_eq_true rfl) ?_
    obtain ⟨r6, c7, h1, h⟩ := bd_some h
    refine k_callVI (pc := 39) (st := []) hX ln_8_90 dX8_typeForLet_39 (i2 _ _ _ _ _ _ _ h1) rfl rfl rfl hde (Nat.le_of_ble_eq_true rfl) ?_
    obtain ⟨h, h0⟩ := Prod.mk.inj (Option.some.inj h)
    subst h h0
    exact j_iret (pc := 42) hX hE rfl rfl dX8_typeForLet_42 (Nat.le_refl 0) (Nat.le_refl 0) ⟨rfl, rfl, rfl⟩
  · replace h := ite_f z h
    refine j_iload_n (pc := 17) hX dX8_typeForLet_17 rfl rfl ?_
    refine j_goto (pc := 18) (tgt := 42) hX dX8_typeForLet_18 (by decide) ?_
    obtain ⟨h, h0⟩ := Prod.mk.inj (Option.some.inj h)
    subst h h0
    exact j_iret (pc := 42) hX hE rfl rfl dX8_typeForLet_42 (Nat.le_refl 0) (Nat.le_refl 0) ⟨rfl, rfl, rfl⟩

set_option maxHeartbeats 4000000 in
set_option maxRecDepth 100000 in
theorem tb_xTypist_typeForSum {l : Launch} {D : va_G} {G : Nat → ClassId} {d : Nat} {e : Nat} {F_typeFor : jS → Int32 → Option (Int32 × jS)} {F_typeForFunction : jS → Int32 → Option (Int32 × jS)} {F_typeUnder : jS → Int32 → Int32 → Int32 → Option (Int32 × jS)} {F_typeForCall : jS → Int32 → Option (Int32 × jS)} {F_typeThatIs : jS → Int32 → Int32 → Option (Int32 × jS)} {F_typeForLet : jS → Int32 → Option (Int32 × jS)} {F_typeForSum : jS → Int32 → Option (Int32 × jS)} {F_typeForChoice : jS → Int32 → Option (Int32 × jS)} (i0 : ∀ (c r : jS) (a1 : Int32) (vE : Int32) (cE : jS), F_typeFor c a1 = some (vE, cE) → jC l D G e M_xTypist_typeFor [.ref 17, .int a1] (jmix c r) (some (.int vE)) (jmix cE r)) (i1 : ∀ (c r : jS) (a1 : Int32) (vE : Int32) (cE : jS), F_typeForFunction c a1 = some (vE, cE) → jC l D G e M_xTypist_typeForFunction [.ref 17, .int a1] (jmix c r) (some (.int vE)) (jmix cE r)) (i2 : ∀ (c r : jS) (a1 : Int32) (a2 : Int32) (a3 : Int32) (vE : Int32) (cE : jS), F_typeUnder c a1 a2 a3 = some (vE, cE) → jC l D G e M_xTypist_typeUnder [.ref 17, .int a1, .int a2, .int a3] (jmix c r) (some (.int vE)) (jmix cE r)) (i3 : ∀ (c r : jS) (a1 : Int32) (vE : Int32) (cE : jS), F_typeForCall c a1 = some (vE, cE) → jC l D G e M_xTypist_typeForCall [.ref 17, .int a1] (jmix c r) (some (.int vE)) (jmix cE r)) (i4 : ∀ (c r : jS) (a1 : Int32) (a2 : Int32) (vE : Int32) (cE : jS), F_typeThatIs c a1 a2 = some (vE, cE) → jC l D G e M_xTypist_typeThatIs [.ref 17, .int a1, .int a2] (jmix c r) (some (.int vE)) (jmix cE r)) (i5 : ∀ (c r : jS) (a1 : Int32) (vE : Int32) (cE : jS), F_typeForLet c a1 = some (vE, cE) → jC l D G e M_xTypist_typeForLet [.ref 17, .int a1] (jmix c r) (some (.int vE)) (jmix cE r)) (i6 : ∀ (c r : jS) (a1 : Int32) (vE : Int32) (cE : jS), F_typeForSum c a1 = some (vE, cE) → jC l D G e M_xTypist_typeForSum [.ref 17, .int a1] (jmix c r) (some (.int vE)) (jmix cE r)) (i7 : ∀ (c r : jS) (a1 : Int32) (vE : Int32) (cE : jS), F_typeForChoice c a1 = some (vE, cE) → jC l D G e M_xTypist_typeForChoice [.ref 17, .int a1] (jmix c r) (some (.int vE)) (jmix cE r)) (hdp : 3 ≤ d) (hde : e + 1 ≤ d) {c r : jS} {a1 : Int32} {vE : Int32} {cE : jS} (h : b_xTypist_typeForSum F_typeFor F_typeForFunction F_typeUnder F_typeForCall F_typeThatIs F_typeForLet F_typeForSum F_typeForChoice c a1 = some (vE, cE)) : jC l D G d M_xTypist_typeForSum [.ref 17, .int a1] (jmix c r) (some (.int vE)) (jmix cE r) := by
  refine jM_of rfl (Nat.le_of_ble_eq_true rfl) ?_
  intro X hl hD hG _ _ hX hE _
  subst hl hD hG
  unfold b_xTypist_typeForSum at h
  show J X 0 0 jN (jE (jmix c r)) [(0, .ref 17), (1, .int a1)] [] 0
  refine j_aload_n (pc := 0) hX dX8_typeForSum_0 rfl rfl ?_
  refine j_iconst (pc := 1) (v := (0 : Int32)) hX dX8_typeForSum_1 (by decide) ?_
  refine j_aload_n (pc := 2) hX dX8_typeForSum_2 rfl rfl ?_
  refine k_getR (pc := 3) (q := 5) hX fl_8_22 dX8_typeForSum_3 rfl rfl ?_
  refine j_iload_n (pc := 6) hX dX8_typeForSum_6 rfl rfl ?_
  obtain ⟨r1, h1, h⟩ := ob_some h
  refine k_callVI (pc := 7) (st := [.int (0 : Int32), .ref 17]) hX ln_8_87 dX8_typeForSum_7 (t_xTerms_firstOf (d := 1) (Nat.le_refl _) h1) rfl rfl rfl (by omega) (Nat.le_of_ble_eq_true rfl) ?_
  obtain ⟨r2, c3, h1, h⟩ := bd_some h
  refine k_callVI (pc := 10) (st := []) hX ln_8_103 dX8_typeForSum_10 (i4 _ _ _ _ _ _ h1) rfl rfl rfl hde (Nat.le_of_ble_eq_true rfl) ?_
  refine j_istore_n (pc := 13) hX dX8_typeForSum_13 rfl (by decide) (by decide) ?_
  refine j_iload_n (pc := 14) hX dX8_typeForSum_14 rfl rfl ?_
  refine j_if_ge (pc := 15) (tgt := 22) hX dX8_typeForSum_15 (by decide) (fun z => ?_) (fun z => ?_)
  · replace h := ite_t z h
    refine j_aload_n (pc := 22) hX dX8_typeForSum_22 rfl rfl ?_
    refine j_iconst (pc := 23) (v := (0 : Int32)) hX dX8_typeForSum_23 (by decide) ?_
    refine j_aload_n (pc := 24) hX dX8_typeForSum_24 rfl rfl ?_
    refine k_getR (pc := 25) (q := 5) hX fl_8_22 dX8_typeForSum_25 rfl rfl ?_
    refine j_iload_n (pc := 28) hX dX8_typeForSum_28 rfl rfl ?_
    obtain ⟨r4, h1, h⟩ := ob_some h
    refine k_callVI (pc := 29) (st := [.int (0 : Int32), .ref 17]) hX ln_8_100 dX8_typeForSum_29 (t_xTerms_secondOf (d := 1) (Nat.le_refl _) h1) rfl rfl rfl (by omega) (Nat.le_of_ble_eq_true rfl) ?_
    obtain ⟨r5, c6, h1, h⟩ := bd_some h
    refine k_callVI (pc := 32) (st := []) hX ln_8_103 dX8_typeForSum_32 (i4 _ _ _ _ _ _ h1) rfl rfl rfl hde (Nat.le_of_ble_eq_true rfl) ?_
    obtain ⟨h, h0⟩ := Prod.mk.inj (Option.some.inj h)
    subst h h0
    exact j_iret (pc := 35) hX hE rfl rfl dX8_typeForSum_35 (Nat.le_refl 0) (Nat.le_refl 0) ⟨rfl, rfl, rfl⟩
  · replace h := ite_f z h
    refine j_iload_n (pc := 18) hX dX8_typeForSum_18 rfl rfl ?_
    refine j_goto (pc := 19) (tgt := 35) hX dX8_typeForSum_19 (by decide) ?_
    obtain ⟨h, h0⟩ := Prod.mk.inj (Option.some.inj h)
    subst h h0
    exact j_iret (pc := 35) hX hE rfl rfl dX8_typeForSum_35 (Nat.le_refl 0) (Nat.le_refl 0) ⟨rfl, rfl, rfl⟩

set_option maxHeartbeats 4000000 in
set_option maxRecDepth 100000 in
theorem tb_xTypist_typeForChoice {l : Launch} {D : va_G} {G : Nat → ClassId} {d : Nat} {e : Nat} {F_typeFor : jS → Int32 → Option (Int32 × jS)} {F_typeForFunction : jS → Int32 → Option (Int32 × jS)} {F_typeUnder : jS → Int32 → Int32 → Int32 → Option (Int32 × jS)} {F_typeForCall : jS → Int32 → Option (Int32 × jS)} {F_typeThatIs : jS → Int32 → Int32 → Option (Int32 × jS)} {F_typeForLet : jS → Int32 → Option (Int32 × jS)} {F_typeForSum : jS → Int32 → Option (Int32 × jS)} {F_typeForChoice : jS → Int32 → Option (Int32 × jS)} (i0 : ∀ (c r : jS) (a1 : Int32) (vE : Int32) (cE : jS), F_typeFor c a1 = some (vE, cE) → jC l D G e M_xTypist_typeFor [.ref 17, .int a1] (jmix c r) (some (.int vE)) (jmix cE r)) (i1 : ∀ (c r : jS) (a1 : Int32) (vE : Int32) (cE : jS), F_typeForFunction c a1 = some (vE, cE) → jC l D G e M_xTypist_typeForFunction [.ref 17, .int a1] (jmix c r) (some (.int vE)) (jmix cE r)) (i2 : ∀ (c r : jS) (a1 : Int32) (a2 : Int32) (a3 : Int32) (vE : Int32) (cE : jS), F_typeUnder c a1 a2 a3 = some (vE, cE) → jC l D G e M_xTypist_typeUnder [.ref 17, .int a1, .int a2, .int a3] (jmix c r) (some (.int vE)) (jmix cE r)) (i3 : ∀ (c r : jS) (a1 : Int32) (vE : Int32) (cE : jS), F_typeForCall c a1 = some (vE, cE) → jC l D G e M_xTypist_typeForCall [.ref 17, .int a1] (jmix c r) (some (.int vE)) (jmix cE r)) (i4 : ∀ (c r : jS) (a1 : Int32) (a2 : Int32) (vE : Int32) (cE : jS), F_typeThatIs c a1 a2 = some (vE, cE) → jC l D G e M_xTypist_typeThatIs [.ref 17, .int a1, .int a2] (jmix c r) (some (.int vE)) (jmix cE r)) (i5 : ∀ (c r : jS) (a1 : Int32) (vE : Int32) (cE : jS), F_typeForLet c a1 = some (vE, cE) → jC l D G e M_xTypist_typeForLet [.ref 17, .int a1] (jmix c r) (some (.int vE)) (jmix cE r)) (i6 : ∀ (c r : jS) (a1 : Int32) (vE : Int32) (cE : jS), F_typeForSum c a1 = some (vE, cE) → jC l D G e M_xTypist_typeForSum [.ref 17, .int a1] (jmix c r) (some (.int vE)) (jmix cE r)) (i7 : ∀ (c r : jS) (a1 : Int32) (vE : Int32) (cE : jS), F_typeForChoice c a1 = some (vE, cE) → jC l D G e M_xTypist_typeForChoice [.ref 17, .int a1] (jmix c r) (some (.int vE)) (jmix cE r)) (hdp : 3 ≤ d) (hde : e + 1 ≤ d) {c r : jS} {a1 : Int32} {vE : Int32} {cE : jS} (h : b_xTypist_typeForChoice F_typeFor F_typeForFunction F_typeUnder F_typeForCall F_typeThatIs F_typeForLet F_typeForSum F_typeForChoice c a1 = some (vE, cE)) : jC l D G d M_xTypist_typeForChoice [.ref 17, .int a1] (jmix c r) (some (.int vE)) (jmix cE r) := by
  refine jM_of rfl (Nat.le_of_ble_eq_true rfl) ?_
  intro X hl hD hG _ _ hX hE _
  subst hl hD hG
  unfold b_xTypist_typeForChoice at h
  show J X 0 0 jN (jE (jmix c r)) [(0, .ref 17), (1, .int a1)] [] 0
  refine j_aload_n (pc := 0) hX dX8_typeForChoice_0 rfl rfl ?_
  refine j_iconst (pc := 1) (v := (0 : Int32)) hX dX8_typeForChoice_1 (by decide) ?_
  refine j_aload_n (pc := 2) hX dX8_typeForChoice_2 rfl rfl ?_
  refine k_getR (pc := 3) (q := 5) hX fl_8_22 dX8_typeForChoice_3 rfl rfl ?_
  refine j_iload_n (pc := 6) hX dX8_typeForChoice_6 rfl rfl ?_
  obtain ⟨r1, h1, h⟩ := ob_some h
  refine k_callVI (pc := 7) (st := [.int (0 : Int32), .ref 17]) hX ln_8_87 dX8_typeForChoice_7 (t_xTerms_firstOf (d := 1) (Nat.le_refl _) h1) rfl rfl rfl (by omega) (Nat.le_of_ble_eq_true rfl) ?_
  obtain ⟨r2, c3, h1, h⟩ := bd_some h
  refine k_callVI (pc := 10) (st := []) hX ln_8_103 dX8_typeForChoice_10 (i4 _ _ _ _ _ _ h1) rfl rfl rfl hde (Nat.le_of_ble_eq_true rfl) ?_
  refine j_istore_n (pc := 13) hX dX8_typeForChoice_13 rfl (by decide) (by decide) ?_
  refine j_iload_n (pc := 14) hX dX8_typeForChoice_14 rfl rfl ?_
  refine j_if_ge (pc := 15) (tgt := 20) hX dX8_typeForChoice_15 (by decide) (fun z => ?_) (fun z => ?_)
  · replace h := ite_t z h
    refine j_aload_n (pc := 20) hX dX8_typeForChoice_20 rfl rfl ?_
    refine j_aload_n (pc := 21) hX dX8_typeForChoice_21 rfl rfl ?_
    refine k_getR (pc := 22) (q := 5) hX fl_8_22 dX8_typeForChoice_22 rfl rfl ?_
    refine j_iload_n (pc := 25) hX dX8_typeForChoice_25 rfl rfl ?_
    obtain ⟨r4, h1, h⟩ := ob_some h
    refine k_callVI (pc := 26) (st := [.ref 17]) hX ln_8_100 dX8_typeForChoice_26 (t_xTerms_secondOf (d := 1) (Nat.le_refl _) h1) rfl rfl rfl (by omega) (Nat.le_of_ble_eq_true rfl) ?_
    obtain ⟨r5, c6, h1, h⟩ := bd_some h
    refine k_callVI (pc := 29) (st := []) hX ln_8_43 dX8_typeForChoice_29 (i0 _ _ _ _ _ h1) rfl rfl rfl hde (Nat.le_of_ble_eq_true rfl) ?_
    refine j_istore_n (pc := 32) hX dX8_typeForChoice_32 rfl (by decide) (by decide) ?_
    refine j_iload_n (pc := 33) hX dX8_typeForChoice_33 rfl rfl ?_
    refine j_if_ge (pc := 34) (tgt := 41) hX dX8_typeForChoice_34 (by decide) (fun z => ?_) (fun z => ?_)
    · replace h := ite_t z h
      refine j_aload_n (pc := 41) hX dX8_typeForChoice_41 rfl rfl ?_
      refine j_iload_n (pc := 42) hX dX8_typeForChoice_42 rfl rfl ?_
      refine j_aload_n (pc := 43) hX dX8_typeForChoice_43 rfl rfl ?_
      refine k_getR (pc := 44) (q := 5) hX fl_8_22 dX8_typeForChoice_44 rfl rfl ?_
      refine j_iload_n (pc := 47) hX dX8_typeForChoice_47 rfl rfl ?_
      obtain ⟨r7, h1, h⟩ := ob_some h
      refine k_callVI (pc := 48) (st := [.int r5, .ref 17]) hX ln_8_109 dX8_typeForChoice_48 (t_xTerms_thirdOf (d := 1) (Nat.le_refl _) h1) rfl rfl rfl (by omega) (Nat.le_of_ble_eq_true rfl) ?_
      obtain ⟨r8, c9, h1, h⟩ := bd_some h
      refine k_callVI (pc := 51) (st := []) hX ln_8_103 dX8_typeForChoice_51 (i4 _ _ _ _ _ _ h1) rfl rfl rfl hde (Nat.le_of_ble_eq_true rfl) ?_
      obtain ⟨h, h0⟩ := Prod.mk.inj (Option.some.inj h)
      subst h h0
      exact j_iret (pc := 54) hX hE rfl rfl dX8_typeForChoice_54 (Nat.le_refl 0) (Nat.le_refl 0) ⟨rfl, rfl, rfl⟩
    · replace h := ite_f z h
      refine j_iload_n (pc := 37) hX dX8_typeForChoice_37 rfl rfl ?_
      refine j_goto (pc := 38) (tgt := 54) hX dX8_typeForChoice_38 (by decide) ?_
      obtain ⟨h, h0⟩ := Prod.mk.inj (Option.some.inj h)
      subst h h0
      exact j_iret (pc := 54) hX hE rfl rfl dX8_typeForChoice_54 (Nat.le_refl 0) (Nat.le_refl 0) ⟨rfl, rfl, rfl⟩
  · replace h := ite_f z h
    refine j_iload_n (pc := 18) hX dX8_typeForChoice_18 rfl rfl ?_
    obtain ⟨h, h0⟩ := Prod.mk.inj (Option.some.inj h)
    subst h h0
    exact j_iret (pc := 19) hX hE rfl rfl dX8_typeForChoice_19 (Nat.le_refl 0) (Nat.le_refl 0) ⟨rfl, rfl, rfl⟩

set_option maxHeartbeats 4000000 in
set_option maxRecDepth 100000 in
theorem tg_xTypist_typeFor {l : Launch} {D : va_G} {G : Nat → ClassId} : ∀ f : Nat, (∀ (c r : jS) (a1 : Int32) (vE : Int32) (cE : jS), xTypist_typeFor f c a1 = some (vE, cE) → jC l D G (f + 3) M_xTypist_typeFor [.ref 17, .int a1] (jmix c r) (some (.int vE)) (jmix cE r)) ∧
    (∀ (c r : jS) (a1 : Int32) (vE : Int32) (cE : jS), xTypist_typeForFunction f c a1 = some (vE, cE) → jC l D G (f + 3) M_xTypist_typeForFunction [.ref 17, .int a1] (jmix c r) (some (.int vE)) (jmix cE r)) ∧
    (∀ (c r : jS) (a1 : Int32) (a2 : Int32) (a3 : Int32) (vE : Int32) (cE : jS), xTypist_typeUnder f c a1 a2 a3 = some (vE, cE) → jC l D G (f + 3) M_xTypist_typeUnder [.ref 17, .int a1, .int a2, .int a3] (jmix c r) (some (.int vE)) (jmix cE r)) ∧
    (∀ (c r : jS) (a1 : Int32) (vE : Int32) (cE : jS), xTypist_typeForCall f c a1 = some (vE, cE) → jC l D G (f + 3) M_xTypist_typeForCall [.ref 17, .int a1] (jmix c r) (some (.int vE)) (jmix cE r)) ∧
    (∀ (c r : jS) (a1 : Int32) (a2 : Int32) (vE : Int32) (cE : jS), xTypist_typeThatIs f c a1 a2 = some (vE, cE) → jC l D G (f + 3) M_xTypist_typeThatIs [.ref 17, .int a1, .int a2] (jmix c r) (some (.int vE)) (jmix cE r)) ∧
    (∀ (c r : jS) (a1 : Int32) (vE : Int32) (cE : jS), xTypist_typeForLet f c a1 = some (vE, cE) → jC l D G (f + 3) M_xTypist_typeForLet [.ref 17, .int a1] (jmix c r) (some (.int vE)) (jmix cE r)) ∧
    (∀ (c r : jS) (a1 : Int32) (vE : Int32) (cE : jS), xTypist_typeForSum f c a1 = some (vE, cE) → jC l D G (f + 3) M_xTypist_typeForSum [.ref 17, .int a1] (jmix c r) (some (.int vE)) (jmix cE r)) ∧
    (∀ (c r : jS) (a1 : Int32) (vE : Int32) (cE : jS), xTypist_typeForChoice f c a1 = some (vE, cE) → jC l D G (f + 3) M_xTypist_typeForChoice [.ref 17, .int a1] (jmix c r) (some (.int vE)) (jmix cE r)) := by
  intro f
  induction f with
  | zero =>
    exact ⟨fun _ _ _ _ _ h => (by cases h), fun _ _ _ _ _ h => (by cases h), fun _ _ _ _ _ _ _ h => (by cases h), fun _ _ _ _ _ h => (by cases h), fun _ _ _ _ _ _ h => (by cases h), fun _ _ _ _ _ h => (by cases h), fun _ _ _ _ _ h => (by cases h), fun _ _ _ _ _ h => (by cases h)⟩
  | succ f ih =>
    obtain ⟨i0, i1, i2, i3, i4, i5, i6, i7⟩ := ih
    exact ⟨fun _ _ _ _ _ h => tb_xTypist_typeFor (e := f + 3) i0 i1 i2 i3 i4 i5 i6 i7 (by omega) (by omega) h,
      fun _ _ _ _ _ h => tb_xTypist_typeForFunction (e := f + 3) i0 i1 i2 i3 i4 i5 i6 i7 (by omega) (by omega) h,
      fun _ _ _ _ _ _ _ h => tb_xTypist_typeUnder (e := f + 3) i0 i1 i2 i3 i4 i5 i6 i7 (by omega) (by omega) h,
      fun _ _ _ _ _ h => tb_xTypist_typeForCall (e := f + 3) i0 i1 i2 i3 i4 i5 i6 i7 (by omega) (by omega) h,
      fun _ _ _ _ _ _ h => tb_xTypist_typeThatIs (e := f + 3) i0 i1 i2 i3 i4 i5 i6 i7 (by omega) (by omega) h,
      fun _ _ _ _ _ h => tb_xTypist_typeForLet (e := f + 3) i0 i1 i2 i3 i4 i5 i6 i7 (by omega) (by omega) h,
      fun _ _ _ _ _ h => tb_xTypist_typeForSum (e := f + 3) i0 i1 i2 i3 i4 i5 i6 i7 (by omega) (by omega) h,
      fun _ _ _ _ _ h => tb_xTypist_typeForChoice (e := f + 3) i0 i1 i2 i3 i4 i5 i6 i7 (by omega) (by omega) h⟩

theorem t_xTypist_typeFor {l : Launch} {D : va_G} {G : Nat → ClassId} {c r : jS} {a1 : Int32} {vE : Int32} {cE : jS} (h : xTypist_typeFor 130 c a1 = some (vE, cE)) : jC l D G 133 M_xTypist_typeFor [.ref 17, .int a1] (jmix c r) (some (.int vE)) (jmix cE r) := (tg_xTypist_typeFor 130).1 _ _ _ _ _ h

theorem t_xTypist_typeForFunction {l : Launch} {D : va_G} {G : Nat → ClassId} {c r : jS} {a1 : Int32} {vE : Int32} {cE : jS} (h : xTypist_typeForFunction 130 c a1 = some (vE, cE)) : jC l D G 133 M_xTypist_typeForFunction [.ref 17, .int a1] (jmix c r) (some (.int vE)) (jmix cE r) := (tg_xTypist_typeFor 130).2.1 _ _ _ _ _ h

theorem t_xTypist_typeUnder {l : Launch} {D : va_G} {G : Nat → ClassId} {c r : jS} {a1 : Int32} {a2 : Int32} {a3 : Int32} {vE : Int32} {cE : jS} (h : xTypist_typeUnder 130 c a1 a2 a3 = some (vE, cE)) : jC l D G 133 M_xTypist_typeUnder [.ref 17, .int a1, .int a2, .int a3] (jmix c r) (some (.int vE)) (jmix cE r) := (tg_xTypist_typeFor 130).2.2.1 _ _ _ _ _ _ _ h

theorem t_xTypist_typeForCall {l : Launch} {D : va_G} {G : Nat → ClassId} {c r : jS} {a1 : Int32} {vE : Int32} {cE : jS} (h : xTypist_typeForCall 130 c a1 = some (vE, cE)) : jC l D G 133 M_xTypist_typeForCall [.ref 17, .int a1] (jmix c r) (some (.int vE)) (jmix cE r) := (tg_xTypist_typeFor 130).2.2.2.1 _ _ _ _ _ h

theorem t_xTypist_typeThatIs {l : Launch} {D : va_G} {G : Nat → ClassId} {c r : jS} {a1 : Int32} {a2 : Int32} {vE : Int32} {cE : jS} (h : xTypist_typeThatIs 130 c a1 a2 = some (vE, cE)) : jC l D G 133 M_xTypist_typeThatIs [.ref 17, .int a1, .int a2] (jmix c r) (some (.int vE)) (jmix cE r) := (tg_xTypist_typeFor 130).2.2.2.2.1 _ _ _ _ _ _ h

theorem t_xTypist_typeForLet {l : Launch} {D : va_G} {G : Nat → ClassId} {c r : jS} {a1 : Int32} {vE : Int32} {cE : jS} (h : xTypist_typeForLet 130 c a1 = some (vE, cE)) : jC l D G 133 M_xTypist_typeForLet [.ref 17, .int a1] (jmix c r) (some (.int vE)) (jmix cE r) := (tg_xTypist_typeFor 130).2.2.2.2.2.1 _ _ _ _ _ h

theorem t_xTypist_typeForSum {l : Launch} {D : va_G} {G : Nat → ClassId} {c r : jS} {a1 : Int32} {vE : Int32} {cE : jS} (h : xTypist_typeForSum 130 c a1 = some (vE, cE)) : jC l D G 133 M_xTypist_typeForSum [.ref 17, .int a1] (jmix c r) (some (.int vE)) (jmix cE r) := (tg_xTypist_typeFor 130).2.2.2.2.2.2.1 _ _ _ _ _ h

theorem t_xTypist_typeForChoice {l : Launch} {D : va_G} {G : Nat → ClassId} {c r : jS} {a1 : Int32} {vE : Int32} {cE : jS} (h : xTypist_typeForChoice 130 c a1 = some (vE, cE)) : jC l D G 133 M_xTypist_typeForChoice [.ref 17, .int a1] (jmix c r) (some (.int vE)) (jmix cE r) := (tg_xTypist_typeFor 130).2.2.2.2.2.2.2 _ _ _ _ _ h

set_option maxHeartbeats 4000000 in
set_option maxRecDepth 100000 in
theorem tl_xTypist_wholeTypeOf_L13 {X : jX} {d : Nat} {r : jS} {vE : Int32} {cE : jS} (hX : jOk X RX8 cX8_wholeTypeOf 4 d) (hdp : 134 ≤ d) (hE : jEnd X (some .int) 0 0 (fun r0 n0 h0 => r0 = (some (.int vE)) ∧ n0 = jN ∧ h0 = jE (jmix cE r))) : ∀ (v1 : Int32) (v2 : Int32) (c : jS), xTypist_wholeTypeOf_L13 v1 v2 c = some (vE, cE) → J X 0 0 jN (jE (jmix c r)) [(0, .ref 17), (1, .int v1), (2, .int v2)] [] 13 := by
  intro v1 v2 c h
  unfold xTypist_wholeTypeOf_L13 at h
  replace h := lp_some h
  obtain ⟨k_13, h⟩ := h
  induction k_13 generalizing v1 v2 c with
  | zero => cases h
  | succ k_13 ih_13 =>
    replace h : lq (fun s : (Int32 × Int32 × jS) => xTypist_wholeTypeOf_S13 s.1 s.2.1 s.2.2) k_13 (vE, cE) (xTypist_wholeTypeOf_S13 v1 v2 c) := lpk_succ (s := (v1, v2, c)) h
    conv at h => arg 4; unfold xTypist_wholeTypeOf_S13
    refine j_iload_n (pc := 13) hX dX8_wholeTypeOf_13 rfl rfl ?_
    refine j_bipush (pc := 14) (v := (26 : Int32)) hX dX8_wholeTypeOf_14 (by decide) ?_
    refine j_icmp_ge (pc := 16) (tgt := 37) hX dX8_wholeTypeOf_16 (by decide) (fun z => ?_) (fun z => ?_)
    · replace h := lq_t z h
      refine j_aload_n (pc := 37) hX dX8_wholeTypeOf_37 rfl rfl ?_
      refine k_getR (pc := 38) (q := 1) hX fl_8_18 dX8_wholeTypeOf_38 rfl rfl ?_
      obtain ⟨r3, h1, h⟩ := lq_ob h
      refine k_callVI (pc := 41) (st := []) hX ln_8_37 dX8_wholeTypeOf_41 (t_xTypes_total (d := 0) (Nat.le_refl _) h1) rfl rfl rfl (by omega) (Nat.le_of_ble_eq_true rfl) ?_
      refine j_istore_n (pc := 44) hX dX8_wholeTypeOf_44 rfl (by decide) (by decide) ?_
      refine j_aload_n (pc := 45) hX dX8_wholeTypeOf_45 rfl rfl ?_
      refine j_iload_n (pc := 46) hX dX8_wholeTypeOf_46 rfl rfl ?_
      obtain ⟨r4, c5, h1, h⟩ := lq_bd h
      refine k_callVI (pc := 47) (st := []) hX ln_8_43 dX8_wholeTypeOf_47 (t_xTypist_typeFor h1) rfl rfl rfl (by omega) (Nat.le_of_ble_eq_true rfl) ?_
      refine j_istore_n (pc := 50) hX dX8_wholeTypeOf_50 rfl (by decide) (by decide) ?_
      refine j_iload_n (pc := 51) hX dX8_wholeTypeOf_51 rfl rfl ?_
      refine j_if_ge (pc := 52) (tgt := 63) hX dX8_wholeTypeOf_52 (by decide) (fun z => ?_) (fun z => ?_)
      · replace h := lq_t z h
        refine j_iload_n (pc := 63) hX dX8_wholeTypeOf_63 rfl rfl ?_
        replace h := lq_r h
        obtain ⟨h, h0⟩ := Prod.mk.inj (Option.some.inj h)
        subst h h0
        exact j_iret (pc := 64) hX hE rfl rfl dX8_wholeTypeOf_64 (Nat.le_refl 0) (Nat.le_refl 0) ⟨rfl, rfl, rfl⟩
      · replace h := lq_f z h
        refine j_aload_n (pc := 55) hX dX8_wholeTypeOf_55 rfl rfl ?_
        refine k_getR (pc := 56) (q := 1) hX fl_8_18 dX8_wholeTypeOf_56 rfl rfl ?_
        refine j_iload_n (pc := 59) hX dX8_wholeTypeOf_59 rfl rfl ?_
        obtain ⟨_u, c6, h1, h⟩ := lq_bd h
        refine k_callVV (pc := 60) (st := []) hX ln_8_47 dX8_wholeTypeOf_60 (t_xTypes_cutTo (d := 0) (Nat.le_refl _) h1) rfl rfl rfl (by omega) (Nat.le_of_ble_eq_true rfl) ?_
        refine j_iload_n (pc := 63) hX dX8_wholeTypeOf_63 rfl rfl ?_
        replace h := lq_r h
        obtain ⟨h, h0⟩ := Prod.mk.inj (Option.some.inj h)
        subst h h0
        exact j_iret (pc := 64) hX hE rfl rfl dX8_wholeTypeOf_64 (Nat.le_refl 0) (Nat.le_refl 0) ⟨rfl, rfl, rfl⟩
    · replace h := lq_f z h
      refine j_aload_n (pc := 19) hX dX8_wholeTypeOf_19 rfl rfl ?_
      refine k_getR (pc := 20) (q := 19) hX fl_8_15 dX8_wholeTypeOf_20 rfl rfl ?_
      refine j_iload_n (pc := 23) hX dX8_wholeTypeOf_23 rfl rfl ?_
      refine j_aload_n (pc := 24) hX dX8_wholeTypeOf_24 rfl rfl ?_
      refine k_getR (pc := 25) (q := 18) hX fl_8_9 dX8_wholeTypeOf_25 rfl rfl ?_
      refine j_iload_n (pc := 28) hX dX8_wholeTypeOf_28 rfl rfl ?_
      obtain ⟨hg, h⟩ := lq_gd h
      refine k_iald (pc := 29) (x := (c 18 (v2).toNatClampNeg)) hX dX8_wholeTypeOf_29 rfl hg rfl ?_
      obtain ⟨hg, h⟩ := lq_gd h
      obtain ⟨c7, hc, h⟩ := lq_lt h
      refine k_iast (pc := 30) (c' := jmix c7 r) hX dX8_wholeTypeOf_30 rfl hg (jmix_xe rfl hc) ?_
      refine j_iinc (pc := 31) hX dX8_wholeTypeOf_31 rfl (v := (v2 + (1 : Int32))) rfl (by decide) (by decide) ?_
      refine j_goto (pc := 34) (tgt := 13) hX dX8_wholeTypeOf_34 (by decide) ?_
      refine j_sub (lv' := [(0, .ref 17), (1, .int v1), (2, .int (v2 + (1 : Int32)))]) ⟨rfl, rfl, rfl, trivial⟩ ?_
      exact ih_13 _ _ _ (lq_l h)
set_option maxHeartbeats 4000000 in
set_option maxRecDepth 100000 in
theorem t_xTypist_wholeTypeOf {l : Launch} {D : va_G} {G : Nat → ClassId} {d : Nat} (hdp : 134 ≤ d) {c r : jS} {a1 : Int32} {vE : Int32} {cE : jS} (h : xTypist_wholeTypeOf c a1 = some (vE, cE)) : jC l D G d M_xTypist_wholeTypeOf [.ref 17, .int a1] (jmix c r) (some (.int vE)) (jmix cE r) := by
  refine jM_of rfl (Nat.le_of_ble_eq_true rfl) ?_
  intro X hl hD hG _ _ hX hE _
  subst hl hD hG
  unfold xTypist_wholeTypeOf at h
  show J X 0 0 jN (jE (jmix c r)) [(0, .ref 17), (1, .int a1)] [] 0
  refine j_aload_n (pc := 0) hX dX8_wholeTypeOf_0 rfl rfl ?_
  refine j_iconst (pc := 1) (v := (0 : Int32)) hX dX8_wholeTypeOf_1 (by decide) ?_
  obtain ⟨c1, hc, h⟩ := lt_some h
  refine k_putI (pc := 2) (c' := jmix c1 r) hX pfl_8_26 dX8_wholeTypeOf_2 rfl rfl (fun _ => ⟨rfl, rfl⟩) (jmix_xe rfl hc) ?_
  refine j_aload_n (pc := 5) hX dX8_wholeTypeOf_5 rfl rfl ?_
  refine j_bipush (pc := 6) (v := (-2 : Int32)) hX dX8_wholeTypeOf_6 (by decide) ?_
  obtain ⟨c2, hc, h⟩ := lt_some h
  refine k_putI (pc := 8) (c' := jmix c2 r) hX pfl_8_30 dX8_wholeTypeOf_8 rfl rfl (fun _ => ⟨rfl, rfl⟩) (jmix_xe rfl hc) ?_
  refine j_iconst (pc := 11) (v := (0 : Int32)) hX dX8_wholeTypeOf_11 (by decide) ?_
  refine j_istore_n (pc := 12) hX dX8_wholeTypeOf_12 rfl (by decide) (by decide) ?_
  refine j_sub (lv' := [(0, .ref 17), (1, .int a1), (2, .int (0 : Int32))]) ⟨rfl, rfl, rfl, trivial⟩ ?_
  exact tl_xTypist_wholeTypeOf_L13 hX hdp hE _ _ _ h

set_option maxHeartbeats 4000000 in
set_option maxRecDepth 100000 in
theorem t_xc_arrow {l : Launch} {D : va_G} {G : Nat → ClassId} {d : Nat} (hdp : 3 ≤ d) {c r : jS} {a1 : Int32} {a2 : Int32} {vE : Int32} {cE : jS} (h : xc_arrow c a1 a2 = some (vE, cE)) : jC l D G d M_xc_arrow [.ref 0, .int a1, .int a2] (jmix c r) (some (.int vE)) (jmix cE r) := by
  refine jM_of rfl (Nat.le_of_ble_eq_true rfl) ?_
  intro X hl hD hG _ _ hX hE _
  subst hl hD hG
  unfold xc_arrow at h
  show J X 0 0 jN (jE (jmix c r)) [(0, .ref 0), (1, .int a1), (2, .int a2)] [] 0
  refine j_aload_n (pc := 0) hX dX9_arrow_0 rfl rfl ?_
  refine k_getR (pc := 1) (q := 1) hX fl_9_10 dX9_arrow_1 rfl rfl ?_
  refine j_iload_n (pc := 4) hX dX9_arrow_4 rfl rfl ?_
  obtain ⟨r1, h1, h⟩ := ob_some h
  refine k_callVI (pc := 5) (st := []) hX ln_9_84 dX9_arrow_5 (t_xTypes_has (d := 0) (Nat.le_refl _) h1) rfl rfl rfl (by omega) (Nat.le_of_ble_eq_true rfl) ?_
  refine j_if_eq (pc := 8) (tgt := 22) hX dX9_arrow_8 (by decide) (fun z => ?_) (fun z => ?_)
  · replace h := ite_t z h
    refine j_iconst (pc := 22) (v := (-1 : Int32)) hX dX9_arrow_22 (by decide) ?_
    obtain ⟨h, h0⟩ := Prod.mk.inj (Option.some.inj h)
    subst h h0
    exact j_iret (pc := 23) hX hE rfl rfl dX9_arrow_23 (Nat.le_refl 0) (Nat.le_refl 0) ⟨rfl, rfl, rfl⟩
  · replace h := ite_f z h
    refine j_aload_n (pc := 11) hX dX9_arrow_11 rfl rfl ?_
    refine k_getR (pc := 12) (q := 1) hX fl_9_10 dX9_arrow_12 rfl rfl ?_
    refine j_iload_n (pc := 15) hX dX9_arrow_15 rfl rfl ?_
    obtain ⟨r2, h1, h⟩ := ob_some h
    refine k_callVI (pc := 16) (st := []) hX ln_9_84 dX9_arrow_16 (t_xTypes_has (d := 0) (Nat.le_refl _) h1) rfl rfl rfl (by omega) (Nat.le_of_ble_eq_true rfl) ?_
    refine j_if_ne (pc := 19) (tgt := 24) hX dX9_arrow_19 (by decide) (fun z => ?_) (fun z => ?_)
    · replace h := ite_f z h
      refine j_aload_n (pc := 24) hX dX9_arrow_24 rfl rfl ?_
      refine k_getR (pc := 25) (q := 1) hX fl_9_10 dX9_arrow_25 rfl rfl ?_
      refine j_iload_n (pc := 28) hX dX9_arrow_28 rfl rfl ?_
      refine j_iload_n (pc := 29) hX dX9_arrow_29 rfl rfl ?_
      obtain ⟨r3, c4, h1, h⟩ := bd_some h
      refine k_callVI (pc := 30) (st := []) hX ln_9_88 dX9_arrow_30 (t_xTypes_arrowOf (d := 2) (Nat.le_refl _) h1) rfl rfl rfl (by omega) (Nat.le_of_ble_eq_true rfl) ?_
      obtain ⟨h, h0⟩ := Prod.mk.inj (Option.some.inj h)
      subst h h0
      exact j_iret (pc := 33) hX hE rfl rfl dX9_arrow_33 (Nat.le_refl 0) (Nat.le_refl 0) ⟨rfl, rfl, rfl⟩
    · replace h := ite_t z h
      refine j_iconst (pc := 22) (v := (-1 : Int32)) hX dX9_arrow_22 (by decide) ?_
      obtain ⟨h, h0⟩ := Prod.mk.inj (Option.some.inj h)
      subst h h0
      exact j_iret (pc := 23) hX hE rfl rfl dX9_arrow_23 (Nat.le_refl 0) (Nat.le_refl 0) ⟨rfl, rfl, rfl⟩

set_option maxHeartbeats 4000000 in
set_option maxRecDepth 100000 in
theorem t_xc_side {l : Launch} {D : va_G} {G : Nat → ClassId} {d : Nat} (hdp : 2 ≤ d) {c r : jS} {a1 : Int32} {a2 : Int32} {vE : Int32} (h : xc_side c a1 a2 = some vE) : jC l D G d M_xc_side [.ref 0, .int a1, .int a2] (jmix c r) (some (.int vE)) (jmix c r) := by
  refine jM_of rfl (Nat.le_of_ble_eq_true rfl) ?_
  intro X hl hD hG _ _ hX hE _
  subst hl hD hG
  unfold xc_side at h
  show J X 0 0 jN (jE (jmix c r)) [(0, .ref 0), (1, .int a1), (2, .int a2)] [] 0
  refine j_aload_n (pc := 0) hX dX9_side_0 rfl rfl ?_
  refine k_getR (pc := 1) (q := 1) hX fl_9_10 dX9_side_1 rfl rfl ?_
  refine j_iload_n (pc := 4) hX dX9_side_4 rfl rfl ?_
  obtain ⟨r1, h1, h⟩ := ob_some h
  refine k_callVI (pc := 5) (st := []) hX ln_9_84 dX9_side_5 (t_xTypes_has (d := 0) (Nat.le_refl _) h1) rfl rfl rfl (by omega) (Nat.le_of_ble_eq_true rfl) ?_
  refine j_if_eq (pc := 8) (tgt := 20) hX dX9_side_8 (by decide) (fun z => ?_) (fun z => ?_)
  · replace h := ite_t z h
    refine j_iconst (pc := 20) (v := (-1 : Int32)) hX dX9_side_20 (by decide) ?_
    replace h := Option.some.inj h
    subst h
    exact j_iret (pc := 21) hX hE rfl rfl dX9_side_21 (Nat.le_refl 0) (Nat.le_refl 0) ⟨rfl, rfl, rfl⟩
  · replace h := ite_f z h
    refine j_iload_n (pc := 11) hX dX9_side_11 rfl rfl ?_
    refine j_if_lt (pc := 12) (tgt := 20) hX dX9_side_12 (by decide) (fun z => ?_) (fun z => ?_)
    · replace h := ite_t z h
      refine j_iconst (pc := 20) (v := (-1 : Int32)) hX dX9_side_20 (by decide) ?_
      replace h := Option.some.inj h
      subst h
      exact j_iret (pc := 21) hX hE rfl rfl dX9_side_21 (Nat.le_refl 0) (Nat.le_refl 0) ⟨rfl, rfl, rfl⟩
    · replace h := ite_f z h
      refine j_iload_n (pc := 15) hX dX9_side_15 rfl rfl ?_
      refine j_iconst (pc := 16) (v := (1 : Int32)) hX dX9_side_16 (by decide) ?_
      refine j_icmp_le (pc := 17) (tgt := 22) hX dX9_side_17 (by decide) (fun z => ?_) (fun z => ?_)
      · replace h := ite_t z h
        refine j_iload_n (pc := 22) hX dX9_side_22 rfl rfl ?_
        refine j_if_ne (pc := 23) (tgt := 37) hX dX9_side_23 (by decide) (fun z => ?_) (fun z => ?_)
        · replace h := ite_f z h
          refine j_aload_n (pc := 37) hX dX9_side_37 rfl rfl ?_
          refine k_getR (pc := 38) (q := 1) hX fl_9_10 dX9_side_38 rfl rfl ?_
          refine j_iload_n (pc := 41) hX dX9_side_41 rfl rfl ?_
          obtain ⟨r2, h1, h⟩ := ob_some h
          refine k_callVI (pc := 42) (st := []) hX ln_9_96 dX9_side_42 (t_xTypes_toOf (d := 1) (Nat.le_refl _) h1) rfl rfl rfl (by omega) (Nat.le_of_ble_eq_true rfl) ?_
          replace h := Option.some.inj h
          subst h
          exact j_iret (pc := 45) hX hE rfl rfl dX9_side_45 (Nat.le_refl 0) (Nat.le_refl 0) ⟨rfl, rfl, rfl⟩
        · replace h := ite_t z h
          refine j_aload_n (pc := 26) hX dX9_side_26 rfl rfl ?_
          refine k_getR (pc := 27) (q := 1) hX fl_9_10 dX9_side_27 rfl rfl ?_
          refine j_iload_n (pc := 30) hX dX9_side_30 rfl rfl ?_
          obtain ⟨r3, h1, h⟩ := ob_some h
          refine k_callVI (pc := 31) (st := []) hX ln_9_92 dX9_side_31 (t_xTypes_fromOf (d := 1) (Nat.le_refl _) h1) rfl rfl rfl (by omega) (Nat.le_of_ble_eq_true rfl) ?_
          refine j_goto (pc := 34) (tgt := 45) hX dX9_side_34 (by decide) ?_
          replace h := Option.some.inj h
          subst h
          exact j_iret (pc := 45) hX hE rfl rfl dX9_side_45 (Nat.le_refl 0) (Nat.le_refl 0) ⟨rfl, rfl, rfl⟩
      · replace h := ite_f z h
        refine j_iconst (pc := 20) (v := (-1 : Int32)) hX dX9_side_20 (by decide) ?_
        replace h := Option.some.inj h
        subst h
        exact j_iret (pc := 21) hX hE rfl rfl dX9_side_21 (Nat.le_refl 0) (Nat.le_refl 0) ⟨rfl, rfl, rfl⟩

set_option maxHeartbeats 4000000 in
set_option maxRecDepth 100000 in
theorem t_xc_declare {l : Launch} {D : va_G} {G : Nat → ClassId} {d : Nat} (hdp : 2 ≤ d) {c r : jS} {a1 : Int32} {a2 : Int32} {vE : Int32} {cE : jS} (h : xc_declare c a1 a2 = some (vE, cE)) : jC l D G d M_xc_declare [.ref 0, .int a1, .int a2] (jmix c r) (some (.int vE)) (jmix cE r) := by
  refine jM_of rfl (Nat.le_of_ble_eq_true rfl) ?_
  intro X hl hD hG _ _ hX hE _
  subst hl hD hG
  unfold xc_declare at h
  show J X 0 0 jN (jE (jmix c r)) [(0, .ref 0), (1, .int a1), (2, .int a2)] [] 0
  refine j_iload_n (pc := 0) hX dX9_declare_0 rfl rfl ?_
  obtain ⟨r1, h1, h⟩ := ob_some h
  refine k_callSI (pc := 1) (st := []) hX ln_9_99 dX9_declare_1 (t_xc_isLetter (d := 0) (Nat.le_refl _) h1) rfl rfl (by omega) (Nat.le_of_ble_eq_true rfl) ?_
  refine j_if_eq (pc := 4) (tgt := 24) hX dX9_declare_4 (by decide) (fun z => ?_) (fun z => ?_)
  · replace h := ite_t z h
    refine j_iconst (pc := 24) (v := (-1 : Int32)) hX dX9_declare_24 (by decide) ?_
    obtain ⟨h, h0⟩ := Prod.mk.inj (Option.some.inj h)
    subst h h0
    exact j_iret (pc := 25) hX hE rfl rfl dX9_declare_25 (Nat.le_refl 0) (Nat.le_refl 0) ⟨rfl, rfl, rfl⟩
  · replace h := ite_f z h
    refine j_iload_n (pc := 7) hX dX9_declare_7 rfl rfl ?_
    refine j_bipush (pc := 8) (v := (-2 : Int32)) hX dX9_declare_8 (by decide) ?_
    refine j_icmp_eq (pc := 10) (tgt := 26) hX dX9_declare_10 (by decide) (fun z => ?_) (fun z => ?_)
    · replace h := ite_t z h
      refine j_aload_n (pc := 26) hX dX9_declare_26 rfl rfl ?_
      refine k_getR (pc := 27) (q := 17) hX fl_9_30 dX9_declare_27 rfl rfl ?_
      refine j_iload_n (pc := 30) hX dX9_declare_30 rfl rfl ?_
      refine j_iload_n (pc := 31) hX dX9_declare_31 rfl rfl ?_
      obtain ⟨_u, c2, h1, h⟩ := bd_some h
      refine k_callVV (pc := 32) (st := []) hX ln_9_102 dX9_declare_32 (t_xTypist_setDeclared (d := 1) (Nat.le_refl _) h1) rfl rfl rfl (by omega) (Nat.le_of_ble_eq_true rfl) ?_
      refine j_iconst (pc := 35) (v := (1 : Int32)) hX dX9_declare_35 (by decide) ?_
      obtain ⟨h, h0⟩ := Prod.mk.inj (Option.some.inj h)
      subst h h0
      exact j_iret (pc := 36) hX hE rfl rfl dX9_declare_36 (Nat.le_refl 0) (Nat.le_refl 0) ⟨rfl, rfl, rfl⟩
    · replace h := ite_f z h
      refine j_aload_n (pc := 13) hX dX9_declare_13 rfl rfl ?_
      refine k_getR (pc := 14) (q := 1) hX fl_9_10 dX9_declare_14 rfl rfl ?_
      refine j_iload_n (pc := 17) hX dX9_declare_17 rfl rfl ?_
      obtain ⟨r3, h1, h⟩ := ob_some h
      refine k_callVI (pc := 18) (st := []) hX ln_9_84 dX9_declare_18 (t_xTypes_has (d := 0) (Nat.le_refl _) h1) rfl rfl rfl (by omega) (Nat.le_of_ble_eq_true rfl) ?_
      refine j_if_ne (pc := 21) (tgt := 26) hX dX9_declare_21 (by decide) (fun z => ?_) (fun z => ?_)
      · replace h := ite_f z h
        refine j_aload_n (pc := 26) hX dX9_declare_26 rfl rfl ?_
        refine k_getR (pc := 27) (q := 17) hX fl_9_30 dX9_declare_27 rfl rfl ?_
        refine j_iload_n (pc := 30) hX dX9_declare_30 rfl rfl ?_
        refine j_iload_n (pc := 31) hX dX9_declare_31 rfl rfl ?_
        obtain ⟨_u, c4, h1, h⟩ := bd_some h
        refine k_callVV (pc := 32) (st := []) hX ln_9_102 dX9_declare_32 (t_xTypist_setDeclared (d := 1) (Nat.le_refl _) h1) rfl rfl rfl (by omega) (Nat.le_of_ble_eq_true rfl) ?_
        refine j_iconst (pc := 35) (v := (1 : Int32)) hX dX9_declare_35 (by decide) ?_
        obtain ⟨h, h0⟩ := Prod.mk.inj (Option.some.inj h)
        subst h h0
        exact j_iret (pc := 36) hX hE rfl rfl dX9_declare_36 (Nat.le_refl 0) (Nat.le_refl 0) ⟨rfl, rfl, rfl⟩
      · replace h := ite_t z h
        refine j_iconst (pc := 24) (v := (-1 : Int32)) hX dX9_declare_24 (by decide) ?_
        obtain ⟨h, h0⟩ := Prod.mk.inj (Option.some.inj h)
        subst h h0
        exact j_iret (pc := 25) hX hE rfl rfl dX9_declare_25 (Nat.le_refl 0) (Nat.le_refl 0) ⟨rfl, rfl, rfl⟩

set_option maxHeartbeats 4000000 in
set_option maxRecDepth 100000 in
theorem t_xc_number {l : Launch} {D : va_G} {G : Nat → ClassId} {d : Nat} (hdp : 4 ≤ d) {c r : jS} {a1 : Int32} {vE : Int32} {cE : jS} (h : xc_number c a1 = some (vE, cE)) : jC l D G d M_xc_number [.ref 0, .int a1] (jmix c r) (some (.int vE)) (jmix cE r) := by
  refine jM_of rfl (Nat.le_of_ble_eq_true rfl) ?_
  intro X hl hD hG _ _ hX hE _
  subst hl hD hG
  unfold xc_number at h
  show J X 0 0 jN (jE (jmix c r)) [(0, .ref 0), (1, .int a1)] [] 0
  refine j_aload_n (pc := 0) hX dX9_number_0 rfl rfl ?_
  refine k_getR (pc := 1) (q := 5) hX fl_9_21 dX9_number_1 rfl rfl ?_
  refine j_iload_n (pc := 4) hX dX9_number_4 rfl rfl ?_
  obtain ⟨r1, c2, h1, h⟩ := bd_some h
  refine k_callVI (pc := 5) (st := []) hX ln_9_106 dX9_number_5 (t_xTerms_newNumber (d := 3) (Nat.le_refl _) h1) rfl rfl rfl (by omega) (Nat.le_of_ble_eq_true rfl) ?_
  obtain ⟨h, h0⟩ := Prod.mk.inj (Option.some.inj h)
  subst h h0
  exact j_iret (pc := 8) hX hE rfl rfl dX9_number_8 (Nat.le_refl 0) (Nat.le_refl 0) ⟨rfl, rfl, rfl⟩

set_option maxHeartbeats 4000000 in
set_option maxRecDepth 100000 in
theorem t_xc_name {l : Launch} {D : va_G} {G : Nat → ClassId} {d : Nat} (hdp : 4 ≤ d) {c r : jS} {a1 : Int32} {vE : Int32} {cE : jS} (h : xc_name c a1 = some (vE, cE)) : jC l D G d M_xc_name [.ref 0, .int a1] (jmix c r) (some (.int vE)) (jmix cE r) := by
  refine jM_of rfl (Nat.le_of_ble_eq_true rfl) ?_
  intro X hl hD hG _ _ hX hE _
  subst hl hD hG
  unfold xc_name at h
  show J X 0 0 jN (jE (jmix c r)) [(0, .ref 0), (1, .int a1)] [] 0
  refine j_iload_n (pc := 0) hX dX9_name_0 rfl rfl ?_
  obtain ⟨r1, h1, h⟩ := ob_some h
  refine k_callSI (pc := 1) (st := []) hX ln_9_99 dX9_name_1 (t_xc_isLetter (d := 0) (Nat.le_refl _) h1) rfl rfl (by omega) (Nat.le_of_ble_eq_true rfl) ?_
  refine j_if_eq (pc := 4) (tgt := 18) hX dX9_name_4 (by decide) (fun z => ?_) (fun z => ?_)
  · replace h := ite_t z h
    refine j_iconst (pc := 18) (v := (-1 : Int32)) hX dX9_name_18 (by decide) ?_
    obtain ⟨h, h0⟩ := Prod.mk.inj (Option.some.inj h)
    subst h h0
    exact j_iret (pc := 19) hX hE rfl rfl dX9_name_19 (Nat.le_refl 0) (Nat.le_refl 0) ⟨rfl, rfl, rfl⟩
  · replace h := ite_f z h
    refine j_aload_n (pc := 7) hX dX9_name_7 rfl rfl ?_
    refine k_getR (pc := 8) (q := 5) hX fl_9_21 dX9_name_8 rfl rfl ?_
    refine j_iload_n (pc := 11) hX dX9_name_11 rfl rfl ?_
    obtain ⟨r2, c3, h1, h⟩ := bd_some h
    refine k_callVI (pc := 12) (st := []) hX ln_9_109 dX9_name_12 (t_xTerms_newName (d := 3) (Nat.le_refl _) h1) rfl rfl rfl (by omega) (Nat.le_of_ble_eq_true rfl) ?_
    refine j_goto (pc := 15) (tgt := 19) hX dX9_name_15 (by decide) ?_
    obtain ⟨h, h0⟩ := Prod.mk.inj (Option.some.inj h)
    subst h h0
    exact j_iret (pc := 19) hX hE rfl rfl dX9_name_19 (Nat.le_refl 0) (Nat.le_refl 0) ⟨rfl, rfl, rfl⟩

set_option maxHeartbeats 4000000 in
set_option maxRecDepth 100000 in
theorem t_xc_function {l : Launch} {D : va_G} {G : Nat → ClassId} {d : Nat} (hdp : 4 ≤ d) {c r : jS} {a1 : Int32} {a2 : Int32} {a3 : Int32} {vE : Int32} {cE : jS} (h : xc_function c a1 a2 a3 = some (vE, cE)) : jC l D G d M_xc_function [.ref 0, .int a1, .int a2, .int a3] (jmix c r) (some (.int vE)) (jmix cE r) := by
  refine jM_of rfl (Nat.le_of_ble_eq_true rfl) ?_
  intro X hl hD hG _ _ hX hE _
  subst hl hD hG
  unfold xc_function at h
  show J X 0 0 jN (jE (jmix c r)) [(0, .ref 0), (1, .int a1), (2, .int a2), (3, .int a3)] [] 0
  refine j_iload_n (pc := 0) hX dX9_function_0 rfl rfl ?_
  obtain ⟨r1, h1, h⟩ := ob_some h
  refine k_callSI (pc := 1) (st := []) hX ln_9_99 dX9_function_1 (t_xc_isLetter (d := 0) (Nat.le_refl _) h1) rfl rfl (by omega) (Nat.le_of_ble_eq_true rfl) ?_
  refine j_if_eq (pc := 4) (tgt := 29) hX dX9_function_4 (by decide) (fun z => ?_) (fun z => ?_)
  · replace h := ite_t z h
    refine j_iconst (pc := 29) (v := (-1 : Int32)) hX dX9_function_29 (by decide) ?_
    obtain ⟨h, h0⟩ := Prod.mk.inj (Option.some.inj h)
    subst h h0
    exact j_iret (pc := 30) hX hE rfl rfl dX9_function_30 (Nat.le_refl 0) (Nat.le_refl 0) ⟨rfl, rfl, rfl⟩
  · replace h := ite_f z h
    refine j_aload_n (pc := 7) hX dX9_function_7 rfl rfl ?_
    refine k_getR (pc := 8) (q := 1) hX fl_9_10 dX9_function_8 rfl rfl ?_
    refine j_iload_n (pc := 11) hX dX9_function_11 rfl rfl ?_
    obtain ⟨r2, h1, h⟩ := ob_some h
    refine k_callVI (pc := 12) (st := []) hX ln_9_84 dX9_function_12 (t_xTypes_has (d := 0) (Nat.le_refl _) h1) rfl rfl rfl (by omega) (Nat.le_of_ble_eq_true rfl) ?_
    refine j_if_eq (pc := 15) (tgt := 29) hX dX9_function_15 (by decide) (fun z => ?_) (fun z => ?_)
    · replace h := ite_t z h
      refine j_iconst (pc := 29) (v := (-1 : Int32)) hX dX9_function_29 (by decide) ?_
      obtain ⟨h, h0⟩ := Prod.mk.inj (Option.some.inj h)
      subst h h0
      exact j_iret (pc := 30) hX hE rfl rfl dX9_function_30 (Nat.le_refl 0) (Nat.le_refl 0) ⟨rfl, rfl, rfl⟩
    · replace h := ite_f z h
      refine j_aload_n (pc := 18) hX dX9_function_18 rfl rfl ?_
      refine k_getR (pc := 19) (q := 5) hX fl_9_21 dX9_function_19 rfl rfl ?_
      refine j_iload_n (pc := 22) hX dX9_function_22 rfl rfl ?_
      obtain ⟨r3, h1, h⟩ := ob_some h
      refine k_callVI (pc := 23) (st := []) hX ln_9_112 dX9_function_23 (t_xTerms_has (d := 0) (Nat.le_refl _) h1) rfl rfl rfl (by omega) (Nat.le_of_ble_eq_true rfl) ?_
      refine j_if_ne (pc := 26) (tgt := 31) hX dX9_function_26 (by decide) (fun z => ?_) (fun z => ?_)
      · replace h := ite_f z h
        refine j_aload_n (pc := 31) hX dX9_function_31 rfl rfl ?_
        refine k_getR (pc := 32) (q := 5) hX fl_9_21 dX9_function_32 rfl rfl ?_
        refine j_iload_n (pc := 35) hX dX9_function_35 rfl rfl ?_
        refine j_iload_n (pc := 36) hX dX9_function_36 rfl rfl ?_
        refine j_iload_n (pc := 37) hX dX9_function_37 rfl rfl ?_
        obtain ⟨r4, c5, h1, h⟩ := bd_some h
        refine k_callVI (pc := 38) (st := []) hX ln_9_113 dX9_function_38 (t_xTerms_newFunction (d := 3) (Nat.le_refl _) h1) rfl rfl rfl (by omega) (Nat.le_of_ble_eq_true rfl) ?_
        obtain ⟨h, h0⟩ := Prod.mk.inj (Option.some.inj h)
        subst h h0
        exact j_iret (pc := 41) hX hE rfl rfl dX9_function_41 (Nat.le_refl 0) (Nat.le_refl 0) ⟨rfl, rfl, rfl⟩
      · replace h := ite_t z h
        refine j_iconst (pc := 29) (v := (-1 : Int32)) hX dX9_function_29 (by decide) ?_
        obtain ⟨h, h0⟩ := Prod.mk.inj (Option.some.inj h)
        subst h h0
        exact j_iret (pc := 30) hX hE rfl rfl dX9_function_30 (Nat.le_refl 0) (Nat.le_refl 0) ⟨rfl, rfl, rfl⟩

set_option maxHeartbeats 4000000 in
set_option maxRecDepth 100000 in
theorem t_xc_let {l : Launch} {D : va_G} {G : Nat → ClassId} {d : Nat} (hdp : 4 ≤ d) {c r : jS} {a1 : Int32} {a2 : Int32} {a3 : Int32} {vE : Int32} {cE : jS} (h : xc_let c a1 a2 a3 = some (vE, cE)) : jC l D G d M_xc_let [.ref 0, .int a1, .int a2, .int a3] (jmix c r) (some (.int vE)) (jmix cE r) := by
  refine jM_of rfl (Nat.le_of_ble_eq_true rfl) ?_
  intro X hl hD hG _ _ hX hE _
  subst hl hD hG
  unfold xc_let at h
  show J X 0 0 jN (jE (jmix c r)) [(0, .ref 0), (1, .int a1), (2, .int a2), (3, .int a3)] [] 0
  refine j_iload_n (pc := 0) hX dX9_let_0 rfl rfl ?_
  obtain ⟨r1, h1, h⟩ := ob_some h
  refine k_callSI (pc := 1) (st := []) hX ln_9_99 dX9_let_1 (t_xc_isLetter (d := 0) (Nat.le_refl _) h1) rfl rfl (by omega) (Nat.le_of_ble_eq_true rfl) ?_
  refine j_if_eq (pc := 4) (tgt := 29) hX dX9_let_4 (by decide) (fun z => ?_) (fun z => ?_)
  · replace h := ite_t z h
    refine j_iconst (pc := 29) (v := (-1 : Int32)) hX dX9_let_29 (by decide) ?_
    obtain ⟨h, h0⟩ := Prod.mk.inj (Option.some.inj h)
    subst h h0
    exact j_iret (pc := 30) hX hE rfl rfl dX9_let_30 (Nat.le_refl 0) (Nat.le_refl 0) ⟨rfl, rfl, rfl⟩
  · replace h := ite_f z h
    refine j_aload_n (pc := 7) hX dX9_let_7 rfl rfl ?_
    refine k_getR (pc := 8) (q := 5) hX fl_9_21 dX9_let_8 rfl rfl ?_
    refine j_iload_n (pc := 11) hX dX9_let_11 rfl rfl ?_
    obtain ⟨r2, h1, h⟩ := ob_some h
    refine k_callVI (pc := 12) (st := []) hX ln_9_112 dX9_let_12 (t_xTerms_has (d := 0) (Nat.le_refl _) h1) rfl rfl rfl (by omega) (Nat.le_of_ble_eq_true rfl) ?_
    refine j_if_eq (pc := 15) (tgt := 29) hX dX9_let_15 (by decide) (fun z => ?_) (fun z => ?_)
    · replace h := ite_t z h
      refine j_iconst (pc := 29) (v := (-1 : Int32)) hX dX9_let_29 (by decide) ?_
      obtain ⟨h, h0⟩ := Prod.mk.inj (Option.some.inj h)
      subst h h0
      exact j_iret (pc := 30) hX hE rfl rfl dX9_let_30 (Nat.le_refl 0) (Nat.le_refl 0) ⟨rfl, rfl, rfl⟩
    · replace h := ite_f z h
      refine j_aload_n (pc := 18) hX dX9_let_18 rfl rfl ?_
      refine k_getR (pc := 19) (q := 5) hX fl_9_21 dX9_let_19 rfl rfl ?_
      refine j_iload_n (pc := 22) hX dX9_let_22 rfl rfl ?_
      obtain ⟨r3, h1, h⟩ := ob_some h
      refine k_callVI (pc := 23) (st := []) hX ln_9_112 dX9_let_23 (t_xTerms_has (d := 0) (Nat.le_refl _) h1) rfl rfl rfl (by omega) (Nat.le_of_ble_eq_true rfl) ?_
      refine j_if_ne (pc := 26) (tgt := 31) hX dX9_let_26 (by decide) (fun z => ?_) (fun z => ?_)
      · replace h := ite_f z h
        refine j_aload_n (pc := 31) hX dX9_let_31 rfl rfl ?_
        refine k_getR (pc := 32) (q := 5) hX fl_9_21 dX9_let_32 rfl rfl ?_
        refine j_iload_n (pc := 35) hX dX9_let_35 rfl rfl ?_
        refine j_iload_n (pc := 36) hX dX9_let_36 rfl rfl ?_
        refine j_iload_n (pc := 37) hX dX9_let_37 rfl rfl ?_
        obtain ⟨r4, c5, h1, h⟩ := bd_some h
        refine k_callVI (pc := 38) (st := []) hX ln_9_117 dX9_let_38 (t_xTerms_newLet (d := 3) (Nat.le_refl _) h1) rfl rfl rfl (by omega) (Nat.le_of_ble_eq_true rfl) ?_
        obtain ⟨h, h0⟩ := Prod.mk.inj (Option.some.inj h)
        subst h h0
        exact j_iret (pc := 41) hX hE rfl rfl dX9_let_41 (Nat.le_refl 0) (Nat.le_refl 0) ⟨rfl, rfl, rfl⟩
      · replace h := ite_t z h
        refine j_iconst (pc := 29) (v := (-1 : Int32)) hX dX9_let_29 (by decide) ?_
        obtain ⟨h, h0⟩ := Prod.mk.inj (Option.some.inj h)
        subst h h0
        exact j_iret (pc := 30) hX hE rfl rfl dX9_let_30 (Nat.le_refl 0) (Nat.le_refl 0) ⟨rfl, rfl, rfl⟩

set_option maxHeartbeats 4000000 in
set_option maxRecDepth 100000 in
theorem tj_xc_join_P16 {X : jX} {d : Nat} {r : jS} {vE : Int32} {cE : jS} (hX : jOk X RX9 cX9_join 5 d) (hdp : 4 ≤ d) (hE : jEnd X (some .int) 0 0 (fun r0 n0 h0 => r0 = (some (.int vE)) ∧ n0 = jN ∧ h0 = jE (jmix cE r))) : ∀ (v1 : Int32) (v2 : Int32) (v3 : Int32) (v4 : Int32) (c : jS), xc_join_P16 v1 v2 v3 v4 c = some (vE, cE) → J X 0 0 jN (jE (jmix c r)) [(0, .ref 0), (1, .int v1), (2, .int v2), (3, .int v3), (4, .int v4)] [] 16 := by
  intro v1 v2 v3 v4 c h
  unfold xc_join_P16 at h
  refine j_aload_n (pc := 16) hX dX9_join_16 rfl rfl ?_
  refine k_getR (pc := 17) (q := 5) hX fl_9_21 dX9_join_17 rfl rfl ?_
  refine j_iload_n (pc := 20) hX dX9_join_20 rfl rfl ?_
  obtain ⟨r1, h1, h⟩ := ob_some h
  refine k_callVI (pc := 21) (st := []) hX ln_9_112 dX9_join_21 (t_xTerms_has (d := 0) (Nat.le_refl _) h1) rfl rfl rfl (by omega) (Nat.le_of_ble_eq_true rfl) ?_
  refine j_if_eq (pc := 24) (tgt := 38) hX dX9_join_24 (by decide) (fun z => ?_) (fun z => ?_)
  · replace h := ite_t z h
    refine j_iconst (pc := 38) (v := (-1 : Int32)) hX dX9_join_38 (by decide) ?_
    obtain ⟨h, h0⟩ := Prod.mk.inj (Option.some.inj h)
    subst h h0
    exact j_iret (pc := 39) hX hE rfl rfl dX9_join_39 (Nat.le_refl 0) (Nat.le_refl 0) ⟨rfl, rfl, rfl⟩
  · replace h := ite_f z h
    refine j_aload_n (pc := 27) hX dX9_join_27 rfl rfl ?_
    refine k_getR (pc := 28) (q := 5) hX fl_9_21 dX9_join_28 rfl rfl ?_
    refine j_iload_n (pc := 31) hX dX9_join_31 rfl rfl ?_
    obtain ⟨r2, h1, h⟩ := ob_some h
    refine k_callVI (pc := 32) (st := []) hX ln_9_112 dX9_join_32 (t_xTerms_has (d := 0) (Nat.le_refl _) h1) rfl rfl rfl (by omega) (Nat.le_of_ble_eq_true rfl) ?_
    refine j_if_ne (pc := 35) (tgt := 40) hX dX9_join_35 (by decide) (fun z => ?_) (fun z => ?_)
    · replace h := ite_f z h
      refine j_iload_n (pc := 40) hX dX9_join_40 rfl rfl ?_
      refine j_bipush (pc := 41) (v := (6 : Int32)) hX dX9_join_41 (by decide) ?_
      refine j_icmp_eq (pc := 43) (tgt := 59) hX dX9_join_43 (by decide) (fun z => ?_) (fun z => ?_)
      · replace h := ite_t z h
        refine j_aload_n (pc := 59) hX dX9_join_59 rfl rfl ?_
        refine k_getR (pc := 60) (q := 5) hX fl_9_21 dX9_join_60 rfl rfl ?_
        refine j_iload (pc := 63) hX dX9_join_63 rfl ?_
        obtain ⟨r3, h1, h⟩ := ob_some h
        refine k_callVI (pc := 65) (st := []) hX ln_9_112 dX9_join_65 (t_xTerms_has (d := 0) (Nat.le_refl _) h1) rfl rfl rfl (by omega) (Nat.le_of_ble_eq_true rfl) ?_
        refine j_if_eq (pc := 68) (tgt := 86) hX dX9_join_68 (by decide) (fun z => ?_) (fun z => ?_)
        · replace h := ite_t z h
          refine j_iconst (pc := 86) (v := (-1 : Int32)) hX dX9_join_86 (by decide) ?_
          obtain ⟨h, h0⟩ := Prod.mk.inj (Option.some.inj h)
          subst h h0
          exact j_iret (pc := 87) hX hE rfl rfl dX9_join_87 (Nat.le_refl 0) (Nat.le_refl 0) ⟨rfl, rfl, rfl⟩
        · replace h := ite_f z h
          refine j_aload_n (pc := 71) hX dX9_join_71 rfl rfl ?_
          refine k_getR (pc := 72) (q := 5) hX fl_9_21 dX9_join_72 rfl rfl ?_
          refine j_iload_n (pc := 75) hX dX9_join_75 rfl rfl ?_
          refine j_iload_n (pc := 76) hX dX9_join_76 rfl rfl ?_
          refine j_iload_n (pc := 77) hX dX9_join_77 rfl rfl ?_
          refine j_iload (pc := 78) hX dX9_join_78 rfl ?_
          obtain ⟨r4, c5, h1, h⟩ := bd_some h
          refine k_callVI (pc := 80) (st := []) hX ln_9_120 dX9_join_80 (t_xTerms_newJoined (d := 3) (Nat.le_refl _) h1) rfl rfl rfl (by omega) (Nat.le_of_ble_eq_true rfl) ?_
          refine j_goto (pc := 83) (tgt := 87) hX dX9_join_83 (by decide) ?_
          obtain ⟨h, h0⟩ := Prod.mk.inj (Option.some.inj h)
          subst h h0
          exact j_iret (pc := 87) hX hE rfl rfl dX9_join_87 (Nat.le_refl 0) (Nat.le_refl 0) ⟨rfl, rfl, rfl⟩
      · replace h := ite_f z h
        refine j_aload_n (pc := 46) hX dX9_join_46 rfl rfl ?_
        refine k_getR (pc := 47) (q := 5) hX fl_9_21 dX9_join_47 rfl rfl ?_
        refine j_iload_n (pc := 50) hX dX9_join_50 rfl rfl ?_
        refine j_iload_n (pc := 51) hX dX9_join_51 rfl rfl ?_
        refine j_iload_n (pc := 52) hX dX9_join_52 rfl rfl ?_
        refine j_bipush (pc := 53) (v := (-2 : Int32)) hX dX9_join_53 (by decide) ?_
        obtain ⟨r6, c7, h1, h⟩ := bd_some h
        refine k_callVI (pc := 55) (st := []) hX ln_9_120 dX9_join_55 (t_xTerms_newJoined (d := 3) (Nat.le_refl _) h1) rfl rfl rfl (by omega) (Nat.le_of_ble_eq_true rfl) ?_
        obtain ⟨h, h0⟩ := Prod.mk.inj (Option.some.inj h)
        subst h h0
        exact j_iret (pc := 58) hX hE rfl rfl dX9_join_58 (Nat.le_refl 0) (Nat.le_refl 0) ⟨rfl, rfl, rfl⟩
    · replace h := ite_t z h
      refine j_iconst (pc := 38) (v := (-1 : Int32)) hX dX9_join_38 (by decide) ?_
      obtain ⟨h, h0⟩ := Prod.mk.inj (Option.some.inj h)
      subst h h0
      exact j_iret (pc := 39) hX hE rfl rfl dX9_join_39 (Nat.le_refl 0) (Nat.le_refl 0) ⟨rfl, rfl, rfl⟩
set_option maxHeartbeats 4000000 in
set_option maxRecDepth 100000 in
theorem t_xc_join {l : Launch} {D : va_G} {G : Nat → ClassId} {d : Nat} (hdp : 4 ≤ d) {c r : jS} {a1 : Int32} {a2 : Int32} {a3 : Int32} {a4 : Int32} {vE : Int32} {cE : jS} (h : xc_join c a1 a2 a3 a4 = some (vE, cE)) : jC l D G d M_xc_join [.ref 0, .int a1, .int a2, .int a3, .int a4] (jmix c r) (some (.int vE)) (jmix cE r) := by
  refine jM_of rfl (Nat.le_of_ble_eq_true rfl) ?_
  intro X hl hD hG _ _ hX hE _
  subst hl hD hG
  unfold xc_join at h
  show J X 0 0 jN (jE (jmix c r)) [(0, .ref 0), (1, .int a1), (2, .int a2), (3, .int a3), (4, .int a4)] [] 0
  refine j_iload_n (pc := 0) hX dX9_join_0 rfl rfl ?_
  refine j_iconst (pc := 1) (v := (3 : Int32)) hX dX9_join_1 (by decide) ?_
  refine j_icmp_eq (pc := 2) (tgt := 16) hX dX9_join_2 (by decide) (fun z => ?_) (fun z => ?_)
  · replace h := ite_t z h
    refine j_sub (lv' := [(0, .ref 0), (1, .int a1), (2, .int a2), (3, .int a3), (4, .int a4)]) ⟨rfl, rfl, rfl, rfl, rfl, trivial⟩ ?_
    exact tj_xc_join_P16 hX hdp hE _ _ _ _ _ h
  · replace h := ite_f z h
    refine j_iload_n (pc := 5) hX dX9_join_5 rfl rfl ?_
    refine j_iconst (pc := 6) (v := (5 : Int32)) hX dX9_join_6 (by decide) ?_
    refine j_icmp_eq (pc := 7) (tgt := 16) hX dX9_join_7 (by decide) (fun z => ?_) (fun z => ?_)
    · replace h := ite_t z h
      refine j_sub (lv' := [(0, .ref 0), (1, .int a1), (2, .int a2), (3, .int a3), (4, .int a4)]) ⟨rfl, rfl, rfl, rfl, rfl, trivial⟩ ?_
      exact tj_xc_join_P16 hX hdp hE _ _ _ _ _ h
    · replace h := ite_f z h
      refine j_iload_n (pc := 10) hX dX9_join_10 rfl rfl ?_
      refine j_bipush (pc := 11) (v := (6 : Int32)) hX dX9_join_11 (by decide) ?_
      refine j_icmp_ne (pc := 13) (tgt := 38) hX dX9_join_13 (by decide) (fun z => ?_) (fun z => ?_)
      · replace h := ite_f z h
        refine j_iconst (pc := 38) (v := (-1 : Int32)) hX dX9_join_38 (by decide) ?_
        obtain ⟨h, h0⟩ := Prod.mk.inj (Option.some.inj h)
        subst h h0
        exact j_iret (pc := 39) hX hE rfl rfl dX9_join_39 (Nat.le_refl 0) (Nat.le_refl 0) ⟨rfl, rfl, rfl⟩
      · replace h := ite_t z h
        refine j_sub (lv' := [(0, .ref 0), (1, .int a1), (2, .int a2), (3, .int a3), (4, .int a4)]) ⟨rfl, rfl, rfl, rfl, rfl, trivial⟩ ?_
        exact tj_xc_join_P16 hX hdp hE _ _ _ _ _ h

set_option maxHeartbeats 4000000 in
set_option maxRecDepth 100000 in
theorem t_xc_told {l : Launch} {D : va_G} {G : Nat → ClassId} {d : Nat} (hdp : 2 ≤ d) {c r : jS} {a1 : Int32} {a2 : Int32} {vE : Int64} (h : xc_told c a1 a2 = some vE) : jC l D G d M_xc_told [.ref 0, .int a1, .int a2] (jmix c r) (some (.long vE)) (jmix c r) := by
  refine jM_of rfl (Nat.le_of_ble_eq_true rfl) ?_
  intro X hl hD hG _ _ hX hE _
  subst hl hD hG
  unfold xc_told at h
  show J X 0 0 jN (jE (jmix c r)) [(0, .ref 0), (1, .int a1), (2, .int a2)] [] 0
  refine j_aload_n (pc := 0) hX dX9_told_0 rfl rfl ?_
  refine k_getR (pc := 1) (q := 5) hX fl_9_21 dX9_told_1 rfl rfl ?_
  refine j_iload_n (pc := 4) hX dX9_told_4 rfl rfl ?_
  obtain ⟨r1, h1, h⟩ := ob_some h
  refine k_callVI (pc := 5) (st := []) hX ln_9_112 dX9_told_5 (t_xTerms_has (d := 0) (Nat.le_refl _) h1) rfl rfl rfl (by omega) (Nat.le_of_ble_eq_true rfl) ?_
  refine j_if_ne (pc := 8) (tgt := 15) hX dX9_told_8 (by decide) (fun z => ?_) (fun z => ?_)
  · replace h := ite_f z h
    refine j_iload_n (pc := 15) hX dX9_told_15 rfl rfl ?_
    by_cases z0 : a2 = 0
    · replace h := ite_t z0 h
      refine j_tabEq (pc := 16) (tgt := 68) 0 hX dX9_told_16 z0 (by decide) (by decide) rfl (by decide) ?_
      refine j_aload_n (pc := 68) hX dX9_told_68 rfl rfl ?_
      refine k_getR (pc := 69) (q := 5) hX fl_9_21 dX9_told_69 rfl rfl ?_
      refine j_iload_n (pc := 72) hX dX9_told_72 rfl rfl ?_
      obtain ⟨r2, h1, h⟩ := ob_some h
      refine k_callVI (pc := 73) (st := []) hX ln_9_126 dX9_told_73 (t_xTerms_kindOf (d := 1) (Nat.le_refl _) h1) rfl rfl rfl (by omega) (Nat.le_of_ble_eq_true rfl) ?_
      refine j_i2l (pc := 76) hX dX9_told_76 ?_
      replace h := Option.some.inj h
      subst h
      exact j_lret (pc := 77) hX hE dX9_told_77 (Nat.le_refl 0) (Nat.le_refl 0) ⟨rfl, rfl, rfl⟩
    replace h := ite_f z0 h
    by_cases z1 : a2 = 1
    · replace h := ite_t z1 h
      refine j_tabEq (pc := 16) (tgt := 78) 1 hX dX9_told_16 z1 (by decide) (by decide) rfl (by decide) ?_
      refine j_aload_n (pc := 78) hX dX9_told_78 rfl rfl ?_
      refine k_getR (pc := 79) (q := 5) hX fl_9_21 dX9_told_79 rfl rfl ?_
      refine j_iload_n (pc := 82) hX dX9_told_82 rfl rfl ?_
      obtain ⟨r3, h1, h⟩ := ob_some h
      refine k_callVI (pc := 83) (st := []) hX ln_9_129 dX9_told_83 (t_xTerms_sizeOf (d := 1) (Nat.le_refl _) h1) rfl rfl rfl (by omega) (Nat.le_of_ble_eq_true rfl) ?_
      refine j_i2l (pc := 86) hX dX9_told_86 ?_
      replace h := Option.some.inj h
      subst h
      exact j_lret (pc := 87) hX hE dX9_told_87 (Nat.le_refl 0) (Nat.le_refl 0) ⟨rfl, rfl, rfl⟩
    replace h := ite_f z1 h
    by_cases z2 : a2 = 2
    · replace h := ite_t z2 h
      refine j_tabEq (pc := 16) (tgt := 88) 2 hX dX9_told_16 z2 (by decide) (by decide) rfl (by decide) ?_
      refine j_aload_n (pc := 88) hX dX9_told_88 rfl rfl ?_
      refine k_getR (pc := 89) (q := 5) hX fl_9_21 dX9_told_89 rfl rfl ?_
      refine j_iload_n (pc := 92) hX dX9_told_92 rfl rfl ?_
      obtain ⟨r4, h1, h⟩ := ob_some h
      refine k_callVI (pc := 93) (st := []) hX ln_9_132 dX9_told_93 (t_xTerms_depthOf (d := 1) (Nat.le_refl _) h1) rfl rfl rfl (by omega) (Nat.le_of_ble_eq_true rfl) ?_
      refine j_i2l (pc := 96) hX dX9_told_96 ?_
      replace h := Option.some.inj h
      subst h
      exact j_lret (pc := 97) hX hE dX9_told_97 (Nat.le_refl 0) (Nat.le_refl 0) ⟨rfl, rfl, rfl⟩
    replace h := ite_f z2 h
    by_cases z3 : a2 = 3
    · replace h := ite_t z3 h
      refine j_tabEq (pc := 16) (tgt := 98) 3 hX dX9_told_16 z3 (by decide) (by decide) rfl (by decide) ?_
      refine j_aload_n (pc := 98) hX dX9_told_98 rfl rfl ?_
      refine k_getR (pc := 99) (q := 5) hX fl_9_21 dX9_told_99 rfl rfl ?_
      refine j_iload_n (pc := 102) hX dX9_told_102 rfl rfl ?_
      obtain ⟨r5, h1, h⟩ := ob_some h
      refine k_callVI (pc := 103) (st := []) hX ln_9_135 dX9_told_103 (t_xTerms_numberOf (d := 1) (Nat.le_refl _) h1) rfl rfl rfl (by omega) (Nat.le_of_ble_eq_true rfl) ?_
      refine j_i2l (pc := 106) hX dX9_told_106 ?_
      replace h := Option.some.inj h
      subst h
      exact j_lret (pc := 107) hX hE dX9_told_107 (Nat.le_refl 0) (Nat.le_refl 0) ⟨rfl, rfl, rfl⟩
    replace h := ite_f z3 h
    by_cases z4 : a2 = 4
    · replace h := ite_t z4 h
      refine j_tabEq (pc := 16) (tgt := 108) 4 hX dX9_told_16 z4 (by decide) (by decide) rfl (by decide) ?_
      refine j_aload_n (pc := 108) hX dX9_told_108 rfl rfl ?_
      refine k_getR (pc := 109) (q := 5) hX fl_9_21 dX9_told_109 rfl rfl ?_
      refine j_iload_n (pc := 112) hX dX9_told_112 rfl rfl ?_
      obtain ⟨r6, h1, h⟩ := ob_some h
      refine k_callVI (pc := 113) (st := []) hX ln_9_138 dX9_told_113 (t_xTerms_letterOf (d := 1) (Nat.le_refl _) h1) rfl rfl rfl (by omega) (Nat.le_of_ble_eq_true rfl) ?_
      refine j_i2l (pc := 116) hX dX9_told_116 ?_
      replace h := Option.some.inj h
      subst h
      exact j_lret (pc := 117) hX hE dX9_told_117 (Nat.le_refl 0) (Nat.le_refl 0) ⟨rfl, rfl, rfl⟩
    replace h := ite_f z4 h
    by_cases z5 : a2 = 5
    · replace h := ite_t z5 h
      refine j_tabEq (pc := 16) (tgt := 118) 5 hX dX9_told_16 z5 (by decide) (by decide) rfl (by decide) ?_
      refine j_aload_n (pc := 118) hX dX9_told_118 rfl rfl ?_
      refine k_getR (pc := 119) (q := 5) hX fl_9_21 dX9_told_119 rfl rfl ?_
      refine j_iload_n (pc := 122) hX dX9_told_122 rfl rfl ?_
      obtain ⟨r7, h1, h⟩ := ob_some h
      refine k_callVI (pc := 123) (st := []) hX ln_9_141 dX9_told_123 (t_xTerms_typeOf (d := 1) (Nat.le_refl _) h1) rfl rfl rfl (by omega) (Nat.le_of_ble_eq_true rfl) ?_
      refine j_i2l (pc := 126) hX dX9_told_126 ?_
      replace h := Option.some.inj h
      subst h
      exact j_lret (pc := 127) hX hE dX9_told_127 (Nat.le_refl 0) (Nat.le_refl 0) ⟨rfl, rfl, rfl⟩
    replace h := ite_f z5 h
    by_cases z6 : a2 = 6
    · replace h := ite_t z6 h
      refine j_tabEq (pc := 16) (tgt := 128) 6 hX dX9_told_16 z6 (by decide) (by decide) rfl (by decide) ?_
      refine j_aload_n (pc := 128) hX dX9_told_128 rfl rfl ?_
      refine k_getR (pc := 129) (q := 5) hX fl_9_21 dX9_told_129 rfl rfl ?_
      refine j_iload_n (pc := 132) hX dX9_told_132 rfl rfl ?_
      obtain ⟨r8, h1, h⟩ := ob_some h
      refine k_callVI (pc := 133) (st := []) hX ln_9_144 dX9_told_133 (t_xTerms_firstOf (d := 1) (Nat.le_refl _) h1) rfl rfl rfl (by omega) (Nat.le_of_ble_eq_true rfl) ?_
      refine j_i2l (pc := 136) hX dX9_told_136 ?_
      replace h := Option.some.inj h
      subst h
      exact j_lret (pc := 137) hX hE dX9_told_137 (Nat.le_refl 0) (Nat.le_refl 0) ⟨rfl, rfl, rfl⟩
    replace h := ite_f z6 h
    by_cases z7 : a2 = 7
    · replace h := ite_t z7 h
      refine j_tabEq (pc := 16) (tgt := 138) 7 hX dX9_told_16 z7 (by decide) (by decide) rfl (by decide) ?_
      refine j_aload_n (pc := 138) hX dX9_told_138 rfl rfl ?_
      refine k_getR (pc := 139) (q := 5) hX fl_9_21 dX9_told_139 rfl rfl ?_
      refine j_iload_n (pc := 142) hX dX9_told_142 rfl rfl ?_
      obtain ⟨r9, h1, h⟩ := ob_some h
      refine k_callVI (pc := 143) (st := []) hX ln_9_147 dX9_told_143 (t_xTerms_secondOf (d := 1) (Nat.le_refl _) h1) rfl rfl rfl (by omega) (Nat.le_of_ble_eq_true rfl) ?_
      refine j_i2l (pc := 146) hX dX9_told_146 ?_
      replace h := Option.some.inj h
      subst h
      exact j_lret (pc := 147) hX hE dX9_told_147 (Nat.le_refl 0) (Nat.le_refl 0) ⟨rfl, rfl, rfl⟩
    replace h := ite_f z7 h
    by_cases z8 : a2 = 8
    · replace h := ite_t z8 h
      refine j_tabEq (pc := 16) (tgt := 148) 8 hX dX9_told_16 z8 (by decide) (by decide) rfl (by decide) ?_
      refine j_aload_n (pc := 148) hX dX9_told_148 rfl rfl ?_
      refine k_getR (pc := 149) (q := 5) hX fl_9_21 dX9_told_149 rfl rfl ?_
      refine j_iload_n (pc := 152) hX dX9_told_152 rfl rfl ?_
      obtain ⟨r10, h1, h⟩ := ob_some h
      refine k_callVI (pc := 153) (st := []) hX ln_9_150 dX9_told_153 (t_xTerms_thirdOf (d := 1) (Nat.le_refl _) h1) rfl rfl rfl (by omega) (Nat.le_of_ble_eq_true rfl) ?_
      refine j_i2l (pc := 156) hX dX9_told_156 ?_
      replace h := Option.some.inj h
      subst h
      exact j_lret (pc := 157) hX hE dX9_told_157 (Nat.le_refl 0) (Nat.le_refl 0) ⟨rfl, rfl, rfl⟩
    replace h := ite_f z8 h
    refine j_tabOut (pc := 16) (tgt := 158) hX dX9_told_16 (by have yz0 := lv_neT (a := 0) z0 (by decide); have yz1 := lv_neT (a := 1) z1 (by decide); have yz2 := lv_neT (a := 2) z2 (by decide); have yz3 := lv_neT (a := 3) z3 (by decide); have yz4 := lv_neT (a := 4) z4 (by decide); have yz5 := lv_neT (a := 5) z5 (by decide); have yz6 := lv_neT (a := 6) z6 (by decide); have yz7 := lv_neT (a := 7) z7 (by decide); have yz8 := lv_neT (a := 8) z8 (by decide); omega) (by decide) ?_
    refine j_ldc2 (pc := 158) (v := (-1 : Int64)) hX dX9_told_158 (mr_15 _ (List.mem_of_getElem? (i := 18) rfl)) ?_
    replace h := Option.some.inj h
    subst h
    exact j_lret (pc := 161) hX hE dX9_told_161 (Nat.le_refl 0) (Nat.le_refl 0) ⟨rfl, rfl, rfl⟩
  · replace h := ite_t z h
    refine j_ldc2 (pc := 11) (v := (-1 : Int64)) hX dX9_told_11 (mr_15 _ (List.mem_of_getElem? (i := 18) rfl)) ?_
    replace h := Option.some.inj h
    subst h
    exact j_lret (pc := 14) hX hE dX9_told_14 (Nat.le_refl 0) (Nat.le_refl 0) ⟨rfl, rfl, rfl⟩

set_option maxHeartbeats 4000000 in
set_option maxRecDepth 100000 in
theorem t_xc_free {l : Launch} {D : va_G} {G : Nat → ClassId} {d : Nat} (hdp : 2 ≤ d) {c r : jS} {a1 : Int32} {vE : Int32} (h : xc_free c a1 = some vE) : jC l D G d M_xc_free [.ref 0, .int a1] (jmix c r) (some (.int vE)) (jmix c r) := by
  refine jM_of rfl (Nat.le_of_ble_eq_true rfl) ?_
  intro X hl hD hG _ _ hX hE _
  subst hl hD hG
  unfold xc_free at h
  show J X 0 0 jN (jE (jmix c r)) [(0, .ref 0), (1, .int a1)] [] 0
  refine j_aload_n (pc := 0) hX dX9_free_0 rfl rfl ?_
  refine k_getR (pc := 1) (q := 5) hX fl_9_21 dX9_free_1 rfl rfl ?_
  refine j_iload_n (pc := 4) hX dX9_free_4 rfl rfl ?_
  obtain ⟨r1, h1, h⟩ := ob_some h
  refine k_callVI (pc := 5) (st := []) hX ln_9_112 dX9_free_5 (t_xTerms_has (d := 0) (Nat.le_refl _) h1) rfl rfl rfl (by omega) (Nat.le_of_ble_eq_true rfl) ?_
  refine j_if_eq (pc := 8) (tgt := 22) hX dX9_free_8 (by decide) (fun z => ?_) (fun z => ?_)
  · replace h := ite_t z h
    refine j_iconst (pc := 22) (v := (-1 : Int32)) hX dX9_free_22 (by decide) ?_
    replace h := Option.some.inj h
    subst h
    exact j_iret (pc := 23) hX hE rfl rfl dX9_free_23 (Nat.le_refl 0) (Nat.le_refl 0) ⟨rfl, rfl, rfl⟩
  · replace h := ite_f z h
    refine j_aload_n (pc := 11) hX dX9_free_11 rfl rfl ?_
    refine k_getR (pc := 12) (q := 5) hX fl_9_21 dX9_free_12 rfl rfl ?_
    refine j_iload_n (pc := 15) hX dX9_free_15 rfl rfl ?_
    obtain ⟨r2, h1, h⟩ := ob_some h
    refine k_callVI (pc := 16) (st := []) hX ln_9_153 dX9_free_16 (t_xTerms_freeLettersOf (d := 1) (Nat.le_refl _) h1) rfl rfl rfl (by omega) (Nat.le_of_ble_eq_true rfl) ?_
    refine j_goto (pc := 19) (tgt := 23) hX dX9_free_19 (by decide) ?_
    replace h := Option.some.inj h
    subst h
    exact j_iret (pc := 23) hX hE rfl rfl dX9_free_23 (Nat.le_refl 0) (Nat.le_refl 0) ⟨rfl, rfl, rfl⟩

set_option maxHeartbeats 4000000 in
set_option maxRecDepth 100000 in
theorem t_xc_uses {l : Launch} {D : va_G} {G : Nat → ClassId} {d : Nat} (hdp : 134 ≤ d) {c r : jS} {a1 : Int32} {a2 : Int32} {vE : Int32} (h : xc_uses c a1 a2 = some vE) : jC l D G d M_xc_uses [.ref 0, .int a1, .int a2] (jmix c r) (some (.int vE)) (jmix c r) := by
  refine jM_of rfl (Nat.le_of_ble_eq_true rfl) ?_
  intro X hl hD hG _ _ hX hE _
  subst hl hD hG
  unfold xc_uses at h
  show J X 0 0 jN (jE (jmix c r)) [(0, .ref 0), (1, .int a1), (2, .int a2)] [] 0
  refine j_aload_n (pc := 0) hX dX9_uses_0 rfl rfl ?_
  refine k_getR (pc := 1) (q := 5) hX fl_9_21 dX9_uses_1 rfl rfl ?_
  refine j_iload_n (pc := 4) hX dX9_uses_4 rfl rfl ?_
  obtain ⟨r1, h1, h⟩ := ob_some h
  refine k_callVI (pc := 5) (st := []) hX ln_9_112 dX9_uses_5 (t_xTerms_has (d := 0) (Nat.le_refl _) h1) rfl rfl rfl (by omega) (Nat.le_of_ble_eq_true rfl) ?_
  refine j_if_eq (pc := 8) (tgt := 30) hX dX9_uses_8 (by decide) (fun z => ?_) (fun z => ?_)
  · replace h := ite_t z h
    refine j_iconst (pc := 30) (v := (-1 : Int32)) hX dX9_uses_30 (by decide) ?_
    replace h := Option.some.inj h
    subst h
    exact j_iret (pc := 31) hX hE rfl rfl dX9_uses_31 (Nat.le_refl 0) (Nat.le_refl 0) ⟨rfl, rfl, rfl⟩
  · replace h := ite_f z h
    refine j_iload_n (pc := 11) hX dX9_uses_11 rfl rfl ?_
    obtain ⟨r2, h1, h⟩ := ob_some h
    refine k_callSI (pc := 12) (st := []) hX ln_9_99 dX9_uses_12 (t_xc_isLetter (d := 0) (Nat.le_refl _) h1) rfl rfl (by omega) (Nat.le_of_ble_eq_true rfl) ?_
    refine j_if_eq (pc := 15) (tgt := 30) hX dX9_uses_15 (by decide) (fun z => ?_) (fun z => ?_)
    · replace h := ite_t z h
      refine j_iconst (pc := 30) (v := (-1 : Int32)) hX dX9_uses_30 (by decide) ?_
      replace h := Option.some.inj h
      subst h
      exact j_iret (pc := 31) hX hE rfl rfl dX9_uses_31 (Nat.le_refl 0) (Nat.le_refl 0) ⟨rfl, rfl, rfl⟩
    · replace h := ite_f z h
      refine j_aload_n (pc := 18) hX dX9_uses_18 rfl rfl ?_
      refine k_getR (pc := 19) (q := 5) hX fl_9_21 dX9_uses_19 rfl rfl ?_
      refine j_iload_n (pc := 22) hX dX9_uses_22 rfl rfl ?_
      refine j_iload_n (pc := 23) hX dX9_uses_23 rfl rfl ?_
      obtain ⟨r3, h1, h⟩ := ob_some h
      refine k_callVI (pc := 24) (st := []) hX ln_9_156 dX9_uses_24 (t_xTerms_usesOf h1) rfl rfl rfl (by omega) (Nat.le_of_ble_eq_true rfl) ?_
      refine j_goto (pc := 27) (tgt := 31) hX dX9_uses_27 (by decide) ?_
      replace h := Option.some.inj h
      subst h
      exact j_iret (pc := 31) hX hE rfl rfl dX9_uses_31 (Nat.le_refl 0) (Nat.le_refl 0) ⟨rfl, rfl, rfl⟩

set_option maxHeartbeats 4000000 in
set_option maxRecDepth 100000 in
theorem t_xc_type {l : Launch} {D : va_G} {G : Nat → ClassId} {d : Nat} (hdp : 135 ≤ d) {c r : jS} {a1 : Int32} {vE : Int32} {cE : jS} (h : xc_type c a1 = some (vE, cE)) : jC l D G d M_xc_type [.ref 0, .int a1] (jmix c r) (some (.int vE)) (jmix cE r) := by
  refine jM_of rfl (Nat.le_of_ble_eq_true rfl) ?_
  intro X hl hD hG _ _ hX hE _
  subst hl hD hG
  unfold xc_type at h
  show J X 0 0 jN (jE (jmix c r)) [(0, .ref 0), (1, .int a1)] [] 0
  refine j_aload_n (pc := 0) hX dX9_type_0 rfl rfl ?_
  refine k_getR (pc := 1) (q := 5) hX fl_9_21 dX9_type_1 rfl rfl ?_
  refine j_iload_n (pc := 4) hX dX9_type_4 rfl rfl ?_
  obtain ⟨r1, h1, h⟩ := ob_some h
  refine k_callVI (pc := 5) (st := []) hX ln_9_112 dX9_type_5 (t_xTerms_has (d := 0) (Nat.le_refl _) h1) rfl rfl rfl (by omega) (Nat.le_of_ble_eq_true rfl) ?_
  refine j_if_eq (pc := 8) (tgt := 22) hX dX9_type_8 (by decide) (fun z => ?_) (fun z => ?_)
  · replace h := ite_t z h
    refine j_iconst (pc := 22) (v := (-1 : Int32)) hX dX9_type_22 (by decide) ?_
    obtain ⟨h, h0⟩ := Prod.mk.inj (Option.some.inj h)
    subst h h0
    exact j_iret (pc := 23) hX hE rfl rfl dX9_type_23 (Nat.le_refl 0) (Nat.le_refl 0) ⟨rfl, rfl, rfl⟩
  · replace h := ite_f z h
    refine j_aload_n (pc := 11) hX dX9_type_11 rfl rfl ?_
    refine k_getR (pc := 12) (q := 17) hX fl_9_30 dX9_type_12 rfl rfl ?_
    refine j_iload_n (pc := 15) hX dX9_type_15 rfl rfl ?_
    obtain ⟨r2, c3, h1, h⟩ := bd_some h
    refine k_callVI (pc := 16) (st := []) hX ln_9_159 dX9_type_16 (t_xTypist_wholeTypeOf (d := 134) (Nat.le_refl _) h1) rfl rfl rfl (by omega) (Nat.le_of_ble_eq_true rfl) ?_
    refine j_goto (pc := 19) (tgt := 23) hX dX9_type_19 (by decide) ?_
    obtain ⟨h, h0⟩ := Prod.mk.inj (Option.some.inj h)
    subst h h0
    exact j_iret (pc := 23) hX hE rfl rfl dX9_type_23 (Nat.le_refl 0) (Nat.le_refl 0) ⟨rfl, rfl, rfl⟩

set_option maxHeartbeats 4000000 in
set_option maxRecDepth 100000 in
theorem t_xc_fault {l : Launch} {D : va_G} {G : Nat → ClassId} {d : Nat} (hdp : 1 ≤ d) {c r : jS} {a1 : Int32} {vE : Int32} (h : xc_fault c a1 = some vE) : jC l D G d M_xc_fault [.ref 0, .int a1] (jmix c r) (some (.int vE)) (jmix c r) := by
  refine jM_of rfl (Nat.le_of_ble_eq_true rfl) ?_
  intro X hl hD hG _ _ hX hE _
  subst hl hD hG
  unfold xc_fault at h
  show J X 0 0 jN (jE (jmix c r)) [(0, .ref 0), (1, .int a1)] [] 0
  refine j_iload_n (pc := 0) hX dX9_fault_0 rfl rfl ?_
  by_cases z0 : a1 = 0
  · replace h := ite_t z0 h
    refine j_look (pc := 1) (tgt := 28) (off := 27) hX dX9_fault_1 (by decide) (by rw [z0]; first | done | rfl) (by decide) ?_
    refine j_aload_n (pc := 28) hX dX9_fault_28 rfl rfl ?_
    refine k_getR (pc := 29) (q := 17) hX fl_9_30 dX9_fault_29 rfl rfl ?_
    obtain ⟨r1, h1, h⟩ := ob_some h
    refine k_callVI (pc := 32) (st := []) hX ln_9_162 dX9_fault_32 (t_xTypist_latestFault (d := 0) (Nat.le_refl _) h1) rfl rfl rfl (by omega) (Nat.le_of_ble_eq_true rfl) ?_
    replace h := Option.some.inj h
    subst h
    exact j_iret (pc := 35) hX hE rfl rfl dX9_fault_35 (Nat.le_refl 0) (Nat.le_refl 0) ⟨rfl, rfl, rfl⟩
  replace h := ite_f z0 h
  by_cases z1 : a1 = 1
  · replace h := ite_t z1 h
    refine j_look (pc := 1) (tgt := 36) (off := 35) hX dX9_fault_1 (by decide) (by rw [z1]; first | done | rfl) (by decide) ?_
    refine j_aload_n (pc := 36) hX dX9_fault_36 rfl rfl ?_
    refine k_getR (pc := 37) (q := 17) hX fl_9_30 dX9_fault_37 rfl rfl ?_
    obtain ⟨r2, h1, h⟩ := ob_some h
    refine k_callVI (pc := 40) (st := []) hX ln_9_166 dX9_fault_40 (t_xTypist_latestFaultAt (d := 0) (Nat.le_refl _) h1) rfl rfl rfl (by omega) (Nat.le_of_ble_eq_true rfl) ?_
    replace h := Option.some.inj h
    subst h
    exact j_iret (pc := 43) hX hE rfl rfl dX9_fault_43 (Nat.le_refl 0) (Nat.le_refl 0) ⟨rfl, rfl, rfl⟩
  replace h := ite_f z1 h
  refine j_look (pc := 1) (tgt := 44) (off := 43) hX dX9_fault_1 (by decide) (by show Op.lookupswitch.offset _ _ _ = _; rw [lv_osw z0 (by decide), lv_osw z1 (by decide)]; first | done | rfl) (by decide) ?_
  refine j_iconst (pc := 44) (v := (-1 : Int32)) hX dX9_fault_44 (by decide) ?_
  replace h := Option.some.inj h
  subst h
  exact j_iret (pc := 45) hX hE rfl rfl dX9_fault_45 (Nat.le_refl 0) (Nat.le_refl 0) ⟨rfl, rfl, rfl⟩

set_option maxHeartbeats 4000000 in
set_option maxRecDepth 100000 in
theorem t_xc_alike {l : Launch} {D : va_G} {G : Nat → ClassId} {d : Nat} (hdp : 134 ≤ d) {c r : jS} {a1 : Int32} {a2 : Int32} {vE : Int32} {cE : jS} (h : xc_alike c a1 a2 = some (vE, cE)) : jC l D G d M_xc_alike [.ref 0, .int a1, .int a2] (jmix c r) (some (.int vE)) (jmix cE r) := by
  refine jM_of rfl (Nat.le_of_ble_eq_true rfl) ?_
  intro X hl hD hG _ _ hX hE _
  subst hl hD hG
  unfold xc_alike at h
  show J X 0 0 jN (jE (jmix c r)) [(0, .ref 0), (1, .int a1), (2, .int a2)] [] 0
  refine j_aload_n (pc := 0) hX dX9_alike_0 rfl rfl ?_
  refine k_getR (pc := 1) (q := 5) hX fl_9_21 dX9_alike_1 rfl rfl ?_
  refine j_iload_n (pc := 4) hX dX9_alike_4 rfl rfl ?_
  obtain ⟨r1, h1, h⟩ := ob_some h
  refine k_callVI (pc := 5) (st := []) hX ln_9_112 dX9_alike_5 (t_xTerms_has (d := 0) (Nat.le_refl _) h1) rfl rfl rfl (by omega) (Nat.le_of_ble_eq_true rfl) ?_
  refine j_if_eq (pc := 8) (tgt := 22) hX dX9_alike_8 (by decide) (fun z => ?_) (fun z => ?_)
  · replace h := ite_t z h
    refine j_iconst (pc := 22) (v := (-1 : Int32)) hX dX9_alike_22 (by decide) ?_
    obtain ⟨h, h0⟩ := Prod.mk.inj (Option.some.inj h)
    subst h h0
    exact j_iret (pc := 23) hX hE rfl rfl dX9_alike_23 (Nat.le_refl 0) (Nat.le_refl 0) ⟨rfl, rfl, rfl⟩
  · replace h := ite_f z h
    refine j_aload_n (pc := 11) hX dX9_alike_11 rfl rfl ?_
    refine k_getR (pc := 12) (q := 5) hX fl_9_21 dX9_alike_12 rfl rfl ?_
    refine j_iload_n (pc := 15) hX dX9_alike_15 rfl rfl ?_
    obtain ⟨r2, h1, h⟩ := ob_some h
    refine k_callVI (pc := 16) (st := []) hX ln_9_112 dX9_alike_16 (t_xTerms_has (d := 0) (Nat.le_refl _) h1) rfl rfl rfl (by omega) (Nat.le_of_ble_eq_true rfl) ?_
    refine j_if_ne (pc := 19) (tgt := 24) hX dX9_alike_19 (by decide) (fun z => ?_) (fun z => ?_)
    · replace h := ite_f z h
      refine j_aload_n (pc := 24) hX dX9_alike_24 rfl rfl ?_
      refine k_getR (pc := 25) (q := 20) hX fl_9_39 dX9_alike_25 rfl rfl ?_
      refine j_iload_n (pc := 28) hX dX9_alike_28 rfl rfl ?_
      refine j_iload_n (pc := 29) hX dX9_alike_29 rfl rfl ?_
      obtain ⟨r3, c4, h1, h⟩ := bd_some h
      refine k_callVI (pc := 30) (st := []) hX ln_9_169 dX9_alike_30 (t_xComparer_areAlike (d := 133) (Nat.le_refl _) h1) rfl rfl rfl (by omega) (Nat.le_of_ble_eq_true rfl) ?_
      refine j_if_eq (pc := 33) (tgt := 40) hX dX9_alike_33 (by decide) (fun z => ?_) (fun z => ?_)
      · replace h := ite_t z h
        refine j_iconst (pc := 40) (v := (0 : Int32)) hX dX9_alike_40 (by decide) ?_
        obtain ⟨h, h0⟩ := Prod.mk.inj (Option.some.inj h)
        subst h h0
        exact j_iret (pc := 41) hX hE rfl rfl dX9_alike_41 (Nat.le_refl 0) (Nat.le_refl 0) ⟨rfl, rfl, rfl⟩
      · replace h := ite_f z h
        refine j_iconst (pc := 36) (v := (1 : Int32)) hX dX9_alike_36 (by decide) ?_
        refine j_goto (pc := 37) (tgt := 41) hX dX9_alike_37 (by decide) ?_
        obtain ⟨h, h0⟩ := Prod.mk.inj (Option.some.inj h)
        subst h h0
        exact j_iret (pc := 41) hX hE rfl rfl dX9_alike_41 (Nat.le_refl 0) (Nat.le_refl 0) ⟨rfl, rfl, rfl⟩
    · replace h := ite_t z h
      refine j_iconst (pc := 22) (v := (-1 : Int32)) hX dX9_alike_22 (by decide) ?_
      obtain ⟨h, h0⟩ := Prod.mk.inj (Option.some.inj h)
      subst h h0
      exact j_iret (pc := 23) hX hE rfl rfl dX9_alike_23 (Nat.le_refl 0) (Nat.le_refl 0) ⟨rfl, rfl, rfl⟩

set_option maxHeartbeats 4000000 in
set_option maxRecDepth 100000 in
theorem tl_xc_least_L15 {X : jX} {d : Nat} {r : jS} {vE : Int32} {cE : jS} (hX : jOk X RX9 cX9_least 3 d) (hdp : 134 ≤ d) (hE : jEnd X (some .int) 0 0 (fun r0 n0 h0 => r0 = (some (.int vE)) ∧ n0 = jN ∧ h0 = jE (jmix cE r))) : ∀ (v1 : Int32) (v2 : Int32) (c : jS), xc_least_L15 v1 v2 c = some (vE, cE) → J X 0 0 jN (jE (jmix c r)) [(0, .ref 0), (1, .int v1), (2, .int v2)] [] 15 := by
  intro v1 v2 c h
  unfold xc_least_L15 at h
  replace h := lp_some h
  obtain ⟨k_15, h⟩ := h
  induction k_15 generalizing v1 v2 c with
  | zero => cases h
  | succ k_15 ih_15 =>
    replace h : lq (fun s : (Int32 × Int32 × jS) => xc_least_S15 s.1 s.2.1 s.2.2) k_15 (vE, cE) (xc_least_S15 v1 v2 c) := lpk_succ (s := (v1, v2, c)) h
    conv at h => arg 4; unfold xc_least_S15
    refine j_iload_n (pc := 15) hX dX9_least_15 rfl rfl ?_
    refine j_iload_n (pc := 16) hX dX9_least_16 rfl rfl ?_
    refine j_icmp_ge (pc := 17) (tgt := 40) hX dX9_least_17 (by decide) (fun z => ?_) (fun z => ?_)
    · replace h := lq_t z h
      refine j_iload_n (pc := 40) hX dX9_least_40 rfl rfl ?_
      replace h := lq_r h
      obtain ⟨h, h0⟩ := Prod.mk.inj (Option.some.inj h)
      subst h h0
      exact j_iret (pc := 41) hX hE rfl rfl dX9_least_41 (Nat.le_refl 0) (Nat.le_refl 0) ⟨rfl, rfl, rfl⟩
    · replace h := lq_f z h
      refine j_aload_n (pc := 20) hX dX9_least_20 rfl rfl ?_
      refine k_getR (pc := 21) (q := 20) hX fl_9_39 dX9_least_21 rfl rfl ?_
      refine j_iload_n (pc := 24) hX dX9_least_24 rfl rfl ?_
      refine j_iload_n (pc := 25) hX dX9_least_25 rfl rfl ?_
      obtain ⟨r2, c3, h1, h⟩ := lq_bd h
      refine k_callVI (pc := 26) (st := []) hX ln_9_169 dX9_least_26 (t_xComparer_areAlike (d := 133) (Nat.le_refl _) h1) rfl rfl rfl (by omega) (Nat.le_of_ble_eq_true rfl) ?_
      refine j_if_eq (pc := 29) (tgt := 34) hX dX9_least_29 (by decide) (fun z => ?_) (fun z => ?_)
      · replace h := lq_t z h
        refine j_iinc (pc := 34) hX dX9_least_34 rfl (v := (v2 + (1 : Int32))) rfl (by decide) (by decide) ?_
        refine j_goto (pc := 37) (tgt := 15) hX dX9_least_37 (by decide) ?_
        refine j_sub (lv' := [(0, .ref 0), (1, .int v1), (2, .int (v2 + (1 : Int32)))]) ⟨rfl, rfl, rfl, trivial⟩ ?_
        exact ih_15 _ _ _ (lq_l h)
      · replace h := lq_f z h
        refine j_iload_n (pc := 32) hX dX9_least_32 rfl rfl ?_
        replace h := lq_r h
        obtain ⟨h, h0⟩ := Prod.mk.inj (Option.some.inj h)
        subst h h0
        exact j_iret (pc := 33) hX hE rfl rfl dX9_least_33 (Nat.le_refl 0) (Nat.le_refl 0) ⟨rfl, rfl, rfl⟩
set_option maxHeartbeats 4000000 in
set_option maxRecDepth 100000 in
theorem t_xc_least {l : Launch} {D : va_G} {G : Nat → ClassId} {d : Nat} (hdp : 134 ≤ d) {c r : jS} {a1 : Int32} {vE : Int32} {cE : jS} (h : xc_least c a1 = some (vE, cE)) : jC l D G d M_xc_least [.ref 0, .int a1] (jmix c r) (some (.int vE)) (jmix cE r) := by
  refine jM_of rfl (Nat.le_of_ble_eq_true rfl) ?_
  intro X hl hD hG _ _ hX hE _
  subst hl hD hG
  unfold xc_least at h
  show J X 0 0 jN (jE (jmix c r)) [(0, .ref 0), (1, .int a1)] [] 0
  refine j_aload_n (pc := 0) hX dX9_least_0 rfl rfl ?_
  refine k_getR (pc := 1) (q := 5) hX fl_9_21 dX9_least_1 rfl rfl ?_
  refine j_iload_n (pc := 4) hX dX9_least_4 rfl rfl ?_
  obtain ⟨r1, h1, h⟩ := ob_some h
  refine k_callVI (pc := 5) (st := []) hX ln_9_112 dX9_least_5 (t_xTerms_has (d := 0) (Nat.le_refl _) h1) rfl rfl rfl (by omega) (Nat.le_of_ble_eq_true rfl) ?_
  refine j_if_ne (pc := 8) (tgt := 13) hX dX9_least_8 (by decide) (fun z => ?_) (fun z => ?_)
  · replace h := ite_f z h
    refine j_iconst (pc := 13) (v := (0 : Int32)) hX dX9_least_13 (by decide) ?_
    refine j_istore_n (pc := 14) hX dX9_least_14 rfl (by decide) (by decide) ?_
    refine j_sub (lv' := [(0, .ref 0), (1, .int a1), (2, .int (0 : Int32))]) ⟨rfl, rfl, rfl, trivial⟩ ?_
    exact tl_xc_least_L15 hX hdp hE _ _ _ h
  · replace h := ite_t z h
    refine j_iconst (pc := 11) (v := (-1 : Int32)) hX dX9_least_11 (by decide) ?_
    obtain ⟨h, h0⟩ := Prod.mk.inj (Option.some.inj h)
    subst h h0
    exact j_iret (pc := 12) hX hE rfl rfl dX9_least_12 (Nat.le_refl 0) (Nat.le_refl 0) ⟨rfl, rfl, rfl⟩

set_option maxHeartbeats 4000000 in
set_option maxRecDepth 100000 in
theorem t_xc_keptOrUndone {l : Launch} {D : va_G} {G : Nat → ClassId} {d : Nat} (hdp : 1 ≤ d) {c r : jS} {a1 : Int32} {a2 : Int32} {vE : Int32} {cE : jS} (h : xc_keptOrUndone c a1 a2 = some (vE, cE)) : jC l D G d M_xc_keptOrUndone [.ref 0, .int a1, .int a2] (jmix c r) (some (.int vE)) (jmix cE r) := by
  refine jM_of rfl (Nat.le_of_ble_eq_true rfl) ?_
  intro X hl hD hG _ _ hX hE _
  subst hl hD hG
  unfold xc_keptOrUndone at h
  show J X 0 0 jN (jE (jmix c r)) [(0, .ref 0), (1, .int a1), (2, .int a2)] [] 0
  refine j_iload_n (pc := 0) hX dX9_keptOrUndone_0 rfl rfl ?_
  refine j_if_ge (pc := 1) (tgt := 12) hX dX9_keptOrUndone_1 (by decide) (fun z => ?_) (fun z => ?_)
  · replace h := ite_t z h
    refine j_iload_n (pc := 12) hX dX9_keptOrUndone_12 rfl rfl ?_
    obtain ⟨h, h0⟩ := Prod.mk.inj (Option.some.inj h)
    subst h h0
    exact j_iret (pc := 13) hX hE rfl rfl dX9_keptOrUndone_13 (Nat.le_refl 0) (Nat.le_refl 0) ⟨rfl, rfl, rfl⟩
  · replace h := ite_f z h
    refine j_aload_n (pc := 4) hX dX9_keptOrUndone_4 rfl rfl ?_
    refine k_getR (pc := 5) (q := 5) hX fl_9_21 dX9_keptOrUndone_5 rfl rfl ?_
    refine j_iload_n (pc := 8) hX dX9_keptOrUndone_8 rfl rfl ?_
    obtain ⟨_u, c1, h1, h⟩ := bd_some h
    refine k_callVV (pc := 9) (st := []) hX ln_9_212 dX9_keptOrUndone_9 (t_xTerms_cutTo (d := 0) (Nat.le_refl _) h1) rfl rfl rfl (by omega) (Nat.le_of_ble_eq_true rfl) ?_
    refine j_iload_n (pc := 12) hX dX9_keptOrUndone_12 rfl rfl ?_
    obtain ⟨h, h0⟩ := Prod.mk.inj (Option.some.inj h)
    subst h h0
    exact j_iret (pc := 13) hX hE rfl rfl dX9_keptOrUndone_13 (Nat.le_refl 0) (Nat.le_refl 0) ⟨rfl, rfl, rfl⟩

set_option maxHeartbeats 4000000 in
set_option maxRecDepth 100000 in
theorem t_xc_put {l : Launch} {D : va_G} {G : Nat → ClassId} {d : Nat} (hdp : 135 ≤ d) {c r : jS} {a1 : Int32} {a2 : Int32} {a3 : Int32} {vE : Int32} {cE : jS} (h : xc_put c a1 a2 a3 = some (vE, cE)) : jC l D G d M_xc_put [.ref 0, .int a1, .int a2, .int a3] (jmix c r) (some (.int vE)) (jmix cE r) := by
  refine jM_of rfl (Nat.le_of_ble_eq_true rfl) ?_
  intro X hl hD hG _ _ hX hE _
  subst hl hD hG
  unfold xc_put at h
  show J X 0 0 jN (jE (jmix c r)) [(0, .ref 0), (1, .int a1), (2, .int a2), (3, .int a3)] [] 0
  refine j_aload_n (pc := 0) hX dX9_put_0 rfl rfl ?_
  refine k_getR (pc := 1) (q := 5) hX fl_9_21 dX9_put_1 rfl rfl ?_
  refine j_iload_n (pc := 4) hX dX9_put_4 rfl rfl ?_
  obtain ⟨r1, h1, h⟩ := ob_some h
  refine k_callVI (pc := 5) (st := []) hX ln_9_112 dX9_put_5 (t_xTerms_has (d := 0) (Nat.le_refl _) h1) rfl rfl rfl (by omega) (Nat.le_of_ble_eq_true rfl) ?_
  refine j_if_eq (pc := 8) (tgt := 29) hX dX9_put_8 (by decide) (fun z => ?_) (fun z => ?_)
  · replace h := ite_t z h
    refine j_iconst (pc := 29) (v := (-1 : Int32)) hX dX9_put_29 (by decide) ?_
    obtain ⟨h, h0⟩ := Prod.mk.inj (Option.some.inj h)
    subst h h0
    exact j_iret (pc := 30) hX hE rfl rfl dX9_put_30 (Nat.le_refl 0) (Nat.le_refl 0) ⟨rfl, rfl, rfl⟩
  · replace h := ite_f z h
    refine j_iload_n (pc := 11) hX dX9_put_11 rfl rfl ?_
    obtain ⟨r2, h1, h⟩ := ob_some h
    refine k_callSI (pc := 12) (st := []) hX ln_9_99 dX9_put_12 (t_xc_isLetter (d := 0) (Nat.le_refl _) h1) rfl rfl (by omega) (Nat.le_of_ble_eq_true rfl) ?_
    refine j_if_eq (pc := 15) (tgt := 29) hX dX9_put_15 (by decide) (fun z => ?_) (fun z => ?_)
    · replace h := ite_t z h
      refine j_iconst (pc := 29) (v := (-1 : Int32)) hX dX9_put_29 (by decide) ?_
      obtain ⟨h, h0⟩ := Prod.mk.inj (Option.some.inj h)
      subst h h0
      exact j_iret (pc := 30) hX hE rfl rfl dX9_put_30 (Nat.le_refl 0) (Nat.le_refl 0) ⟨rfl, rfl, rfl⟩
    · replace h := ite_f z h
      refine j_aload_n (pc := 18) hX dX9_put_18 rfl rfl ?_
      refine k_getR (pc := 19) (q := 5) hX fl_9_21 dX9_put_19 rfl rfl ?_
      refine j_iload_n (pc := 22) hX dX9_put_22 rfl rfl ?_
      obtain ⟨r3, h1, h⟩ := ob_some h
      refine k_callVI (pc := 23) (st := []) hX ln_9_112 dX9_put_23 (t_xTerms_has (d := 0) (Nat.le_refl _) h1) rfl rfl rfl (by omega) (Nat.le_of_ble_eq_true rfl) ?_
      refine j_if_ne (pc := 26) (tgt := 31) hX dX9_put_26 (by decide) (fun z => ?_) (fun z => ?_)
      · replace h := ite_f z h
        refine j_aload_n (pc := 31) hX dX9_put_31 rfl rfl ?_
        refine k_getR (pc := 32) (q := 5) hX fl_9_21 dX9_put_32 rfl rfl ?_
        obtain ⟨r4, h1, h⟩ := ob_some h
        refine k_callVI (pc := 35) (st := []) hX ln_9_173 dX9_put_35 (t_xTerms_total (d := 0) (Nat.le_refl _) h1) rfl rfl rfl (by omega) (Nat.le_of_ble_eq_true rfl) ?_
        refine j_istore (pc := 38) hX dX9_put_38 (by decide) (by decide) ?_
        refine j_aload_n (pc := 40) hX dX9_put_40 rfl rfl ?_
        refine j_aload_n (pc := 41) hX dX9_put_41 rfl rfl ?_
        refine k_getR (pc := 42) (q := 23) hX fl_9_46 dX9_put_42 rfl rfl ?_
        refine j_iload_n (pc := 45) hX dX9_put_45 rfl rfl ?_
        refine j_iload_n (pc := 46) hX dX9_put_46 rfl rfl ?_
        refine j_iload_n (pc := 47) hX dX9_put_47 rfl rfl ?_
        obtain ⟨r5, c6, h1, h⟩ := bd_some h
        refine k_callVI (pc := 48) (st := [.ref 0]) hX ln_9_176 dX9_put_48 (t_xPutter_into h1) rfl rfl rfl (by omega) (Nat.le_of_ble_eq_true rfl) ?_
        refine j_iload (pc := 51) hX dX9_put_51 rfl ?_
        obtain ⟨r7, c8, h1, h⟩ := bd_some h
        refine k_callVI (pc := 53) (st := []) hX ln_9_179 dX9_put_53 (t_xc_keptOrUndone (d := 1) (Nat.le_refl _) h1) rfl rfl rfl (by omega) (Nat.le_of_ble_eq_true rfl) ?_
        obtain ⟨h, h0⟩ := Prod.mk.inj (Option.some.inj h)
        subst h h0
        exact j_iret (pc := 56) hX hE rfl rfl dX9_put_56 (Nat.le_refl 0) (Nat.le_refl 0) ⟨rfl, rfl, rfl⟩
      · replace h := ite_t z h
        refine j_iconst (pc := 29) (v := (-1 : Int32)) hX dX9_put_29 (by decide) ?_
        obtain ⟨h, h0⟩ := Prod.mk.inj (Option.some.inj h)
        subst h h0
        exact j_iret (pc := 30) hX hE rfl rfl dX9_put_30 (Nat.le_refl 0) (Nat.le_refl 0) ⟨rfl, rfl, rfl⟩

set_option maxHeartbeats 4000000 in
set_option maxRecDepth 100000 in
theorem t_xc_step {l : Launch} {D : va_G} {G : Nat → ClassId} {d : Nat} (hdp : 266 ≤ d) {c r : jS} {a1 : Int32} {vE : Int32} {cE : jS} (h : xc_step c a1 = some (vE, cE)) : jC l D G d M_xc_step [.ref 0, .int a1] (jmix c r) (some (.int vE)) (jmix cE r) := by
  refine jM_of rfl (Nat.le_of_ble_eq_true rfl) ?_
  intro X hl hD hG _ _ hX hE _
  subst hl hD hG
  unfold xc_step at h
  show J X 0 0 jN (jE (jmix c r)) [(0, .ref 0), (1, .int a1)] [] 0
  refine j_aload_n (pc := 0) hX dX9_step_0 rfl rfl ?_
  refine k_getR (pc := 1) (q := 5) hX fl_9_21 dX9_step_1 rfl rfl ?_
  refine j_iload_n (pc := 4) hX dX9_step_4 rfl rfl ?_
  obtain ⟨r1, h1, h⟩ := ob_some h
  refine k_callVI (pc := 5) (st := []) hX ln_9_112 dX9_step_5 (t_xTerms_has (d := 0) (Nat.le_refl _) h1) rfl rfl rfl (by omega) (Nat.le_of_ble_eq_true rfl) ?_
  refine j_if_ne (pc := 8) (tgt := 13) hX dX9_step_8 (by decide) (fun z => ?_) (fun z => ?_)
  · replace h := ite_f z h
    refine j_aload_n (pc := 13) hX dX9_step_13 rfl rfl ?_
    refine k_getR (pc := 14) (q := 5) hX fl_9_21 dX9_step_14 rfl rfl ?_
    obtain ⟨r2, h1, h⟩ := ob_some h
    refine k_callVI (pc := 17) (st := []) hX ln_9_173 dX9_step_17 (t_xTerms_total (d := 0) (Nat.le_refl _) h1) rfl rfl rfl (by omega) (Nat.le_of_ble_eq_true rfl) ?_
    refine j_istore_n (pc := 20) hX dX9_step_20 rfl (by decide) (by decide) ?_
    refine j_aload_n (pc := 21) hX dX9_step_21 rfl rfl ?_
    refine j_aload_n (pc := 22) hX dX9_step_22 rfl rfl ?_
    refine k_getR (pc := 23) (q := 24) hX fl_9_55 dX9_step_23 rfl rfl ?_
    refine j_iload_n (pc := 26) hX dX9_step_26 rfl rfl ?_
    obtain ⟨r3, c4, h1, h⟩ := bd_some h
    refine k_callVI (pc := 27) (st := [.ref 0]) hX ln_9_182 dX9_step_27 (t_xStepper_stepOf h1) rfl rfl rfl (by omega) (Nat.le_of_ble_eq_true rfl) ?_
    refine j_iload_n (pc := 30) hX dX9_step_30 rfl rfl ?_
    obtain ⟨r5, c6, h1, h⟩ := bd_some h
    refine k_callVI (pc := 31) (st := []) hX ln_9_179 dX9_step_31 (t_xc_keptOrUndone (d := 1) (Nat.le_refl _) h1) rfl rfl rfl (by omega) (Nat.le_of_ble_eq_true rfl) ?_
    obtain ⟨h, h0⟩ := Prod.mk.inj (Option.some.inj h)
    subst h h0
    exact j_iret (pc := 34) hX hE rfl rfl dX9_step_34 (Nat.le_refl 0) (Nat.le_refl 0) ⟨rfl, rfl, rfl⟩
  · replace h := ite_t z h
    refine j_iconst (pc := 11) (v := (-1 : Int32)) hX dX9_step_11 (by decide) ?_
    obtain ⟨h, h0⟩ := Prod.mk.inj (Option.some.inj h)
    subst h h0
    exact j_iret (pc := 12) hX hE rfl rfl dX9_step_12 (Nat.le_refl 0) (Nat.le_refl 0) ⟨rfl, rfl, rfl⟩

set_option maxHeartbeats 4000000 in
set_option maxRecDepth 100000 in
theorem tl_xc_run_L40 {X : jX} {d : Nat} {r : jS} {vE : Int32} {cE : jS} (hX : jOk X RX9 cX9_run 8 d) (hdp : 266 ≤ d) (hE : jEnd X (some .int) 0 0 (fun r0 n0 h0 => r0 = (some (.int vE)) ∧ n0 = jN ∧ h0 = jE (jmix cE r))) : ∀ (v2 : Int32) (v3 : Int32) (v4 : Int32) (v5 : Int32) (v6 : Int32) (c : jS), xc_run_L40 v2 v3 v4 v5 v6 c = some (vE, cE) → J X 0 0 jN (jE (jmix c r)) [(0, .ref 0), (2, .int v2), (3, .int v3), (4, .int v4), (5, .int v5), (6, .int v6)] [] 40 := by
  intro v2 v3 v4 v5 v6 c h
  unfold xc_run_L40 at h
  replace h := lp_some h
  obtain ⟨k_40, h⟩ := h
  induction k_40 generalizing v2 v3 v4 v5 v6 c with
  | zero => cases h
  | succ k_40 ih_40 =>
    replace h : lq (fun s : (Int32 × Int32 × Int32 × Int32 × Int32 × jS) => xc_run_S40 s.1 s.2.1 s.2.2.1 s.2.2.2.1 s.2.2.2.2.1 s.2.2.2.2.2) k_40 (vE, cE) (xc_run_S40 v2 v3 v4 v5 v6 c) := lpk_succ (s := (v2, v3, v4, v5, v6, c)) h
    conv at h => arg 4; unfold xc_run_S40
    refine j_iload (pc := 40) hX dX9_run_40 rfl ?_
    refine j_iload_n (pc := 42) hX dX9_run_42 rfl rfl ?_
    refine j_icmp_ge (pc := 43) (tgt := 93) hX dX9_run_43 (by decide) (fun z => ?_) (fun z => ?_)
    · replace h := lq_t z h
      refine j_aload_n (pc := 93) hX dX9_run_93 rfl rfl ?_
      refine j_iload (pc := 94) hX dX9_run_94 rfl ?_
      obtain ⟨c3, hc, h⟩ := lq_lt h
      refine k_putI (pc := 96) (c' := jmix c3 r) hX pfl_9_80 dX9_run_96 rfl rfl (fun _ => ⟨rfl, rfl⟩) (jmix_xe rfl hc) ?_
      refine j_iload (pc := 99) hX dX9_run_99 rfl ?_
      replace h := lq_r h
      obtain ⟨h, h0⟩ := Prod.mk.inj (Option.some.inj h)
      subst h h0
      exact j_iret (pc := 101) hX hE rfl rfl dX9_run_101 (Nat.le_refl 0) (Nat.le_refl 0) ⟨rfl, rfl, rfl⟩
    · replace h := lq_f z h
      refine j_aload_n (pc := 46) hX dX9_run_46 rfl rfl ?_
      refine k_getR (pc := 47) (q := 24) hX fl_9_55 dX9_run_47 rfl rfl ?_
      refine j_iload (pc := 50) hX dX9_run_50 rfl ?_
      obtain ⟨r4, c5, h1, h⟩ := lq_bd h
      refine k_callVI (pc := 52) (st := []) hX ln_9_182 dX9_run_52 (t_xStepper_stepOf h1) rfl rfl rfl (by omega) (Nat.le_of_ble_eq_true rfl) ?_
      refine j_istore (pc := 55) hX dX9_run_55 (by decide) (by decide) ?_
      refine j_iload (pc := 57) hX dX9_run_57 rfl ?_
      refine j_bipush (pc := 59) (v := (-3 : Int32)) hX dX9_run_59 (by decide) ?_
      refine j_icmp_ne (pc := 61) (tgt := 72) hX dX9_run_61 (by decide) (fun z => ?_) (fun z => ?_)
      · replace h := lq_f z h
        refine j_iload (pc := 72) hX dX9_run_72 rfl ?_
        refine j_if_ge (pc := 74) (tgt := 80) hX dX9_run_74 (by decide) (fun z => ?_) (fun z => ?_)
        · replace h := lq_t z h
          refine j_iload (pc := 80) hX dX9_run_80 rfl ?_
          refine j_istore (pc := 82) hX dX9_run_82 (by decide) (by decide) ?_
          refine j_iinc (pc := 84) hX dX9_run_84 rfl (v := (v5 + (1 : Int32))) rfl (by decide) (by decide) ?_
          refine j_iinc (pc := 87) hX dX9_run_87 rfl (v := (v6 + (1 : Int32))) rfl (by decide) (by decide) ?_
          refine j_goto (pc := 90) (tgt := 40) hX dX9_run_90 (by decide) ?_
          refine j_sub (lv' := [(0, .ref 0), (2, .int v2), (3, .int v3), (4, .int r4), (5, .int (v5 + (1 : Int32))), (6, .int (v6 + (1 : Int32)))]) ⟨rfl, rfl, rfl, rfl, rfl, rfl, trivial⟩ ?_
          exact ih_40 _ _ _ _ _ _ (lq_l h)
        · replace h := lq_f z h
          refine j_goto (pc := 77) (tgt := 93) hX dX9_run_77 (by decide) ?_
          refine j_aload_n (pc := 93) hX dX9_run_93 rfl rfl ?_
          refine j_iload (pc := 94) hX dX9_run_94 rfl ?_
          obtain ⟨c6, hc, h⟩ := lq_lt h
          refine k_putI (pc := 96) (c' := jmix c6 r) hX pfl_9_80 dX9_run_96 rfl rfl (fun _ => ⟨rfl, rfl⟩) (jmix_xe rfl hc) ?_
          refine j_iload (pc := 99) hX dX9_run_99 rfl ?_
          replace h := lq_r h
          obtain ⟨h, h0⟩ := Prod.mk.inj (Option.some.inj h)
          subst h h0
          exact j_iret (pc := 101) hX hE rfl rfl dX9_run_101 (Nat.le_refl 0) (Nat.le_refl 0) ⟨rfl, rfl, rfl⟩
      · replace h := lq_t z h
        refine j_aload_n (pc := 64) hX dX9_run_64 rfl rfl ?_
        refine j_bipush (pc := 65) (v := (-3 : Int32)) hX dX9_run_65 (by decide) ?_
        refine j_iload_n (pc := 67) hX dX9_run_67 rfl rfl ?_
        obtain ⟨r7, c8, h1, h⟩ := lq_bd h
        refine k_callVI (pc := 68) (st := []) hX ln_9_179 dX9_run_68 (t_xc_keptOrUndone (d := 1) (Nat.le_refl _) h1) rfl rfl rfl (by omega) (Nat.le_of_ble_eq_true rfl) ?_
        replace h := lq_r h
        obtain ⟨h, h0⟩ := Prod.mk.inj (Option.some.inj h)
        subst h h0
        exact j_iret (pc := 71) hX hE rfl rfl dX9_run_71 (Nat.le_refl 0) (Nat.le_refl 0) ⟨rfl, rfl, rfl⟩
set_option maxHeartbeats 4000000 in
set_option maxRecDepth 100000 in
theorem t_xc_run {l : Launch} {D : va_G} {G : Nat → ClassId} {d : Nat} (hdp : 266 ≤ d) {c r : jS} {a1 : Int32} {a2 : Int32} {vE : Int32} {cE : jS} (h : xc_run c a1 a2 = some (vE, cE)) : jC l D G d M_xc_run [.ref 0, .int a1, .int a2] (jmix c r) (some (.int vE)) (jmix cE r) := by
  refine jM_of rfl (Nat.le_of_ble_eq_true rfl) ?_
  intro X hl hD hG _ _ hX hE _
  subst hl hD hG
  unfold xc_run at h
  show J X 0 0 jN (jE (jmix c r)) [(0, .ref 0), (1, .int a1), (2, .int a2)] [] 0
  refine j_aload_n (pc := 0) hX dX9_run_0 rfl rfl ?_
  refine k_getR (pc := 1) (q := 5) hX fl_9_21 dX9_run_1 rfl rfl ?_
  refine j_iload_n (pc := 4) hX dX9_run_4 rfl rfl ?_
  obtain ⟨r1, h1, h⟩ := ob_some h
  refine k_callVI (pc := 5) (st := []) hX ln_9_112 dX9_run_5 (t_xTerms_has (d := 0) (Nat.le_refl _) h1) rfl rfl rfl (by omega) (Nat.le_of_ble_eq_true rfl) ?_
  refine j_if_eq (pc := 8) (tgt := 21) hX dX9_run_8 (by decide) (fun z => ?_) (fun z => ?_)
  · replace h := ite_t z h
    refine j_iconst (pc := 21) (v := (-1 : Int32)) hX dX9_run_21 (by decide) ?_
    obtain ⟨h, h0⟩ := Prod.mk.inj (Option.some.inj h)
    subst h h0
    exact j_iret (pc := 22) hX hE rfl rfl dX9_run_22 (Nat.le_refl 0) (Nat.le_refl 0) ⟨rfl, rfl, rfl⟩
  · replace h := ite_f z h
    refine j_iload_n (pc := 11) hX dX9_run_11 rfl rfl ?_
    refine j_if_lt (pc := 12) (tgt := 21) hX dX9_run_12 (by decide) (fun z => ?_) (fun z => ?_)
    · replace h := ite_t z h
      refine j_iconst (pc := 21) (v := (-1 : Int32)) hX dX9_run_21 (by decide) ?_
      obtain ⟨h, h0⟩ := Prod.mk.inj (Option.some.inj h)
      subst h h0
      exact j_iret (pc := 22) hX hE rfl rfl dX9_run_22 (Nat.le_refl 0) (Nat.le_refl 0) ⟨rfl, rfl, rfl⟩
    · replace h := ite_f z h
      refine j_iload_n (pc := 15) hX dX9_run_15 rfl rfl ?_
      refine j_bipush (pc := 16) (v := (50 : Int32)) hX dX9_run_16 (by decide) ?_
      refine j_icmp_le (pc := 18) (tgt := 23) hX dX9_run_18 (by decide) (fun z => ?_) (fun z => ?_)
      · replace h := ite_t z h
        refine j_aload_n (pc := 23) hX dX9_run_23 rfl rfl ?_
        refine k_getR (pc := 24) (q := 5) hX fl_9_21 dX9_run_24 rfl rfl ?_
        obtain ⟨r2, h1, h⟩ := ob_some h
        refine k_callVI (pc := 27) (st := []) hX ln_9_173 dX9_run_27 (t_xTerms_total (d := 0) (Nat.le_refl _) h1) rfl rfl rfl (by omega) (Nat.le_of_ble_eq_true rfl) ?_
        refine j_istore_n (pc := 30) hX dX9_run_30 rfl (by decide) (by decide) ?_
        refine j_iload_n (pc := 31) hX dX9_run_31 rfl rfl ?_
        refine j_istore (pc := 32) hX dX9_run_32 (by decide) (by decide) ?_
        refine j_iconst (pc := 34) (v := (0 : Int32)) hX dX9_run_34 (by decide) ?_
        refine j_istore (pc := 35) hX dX9_run_35 (by decide) (by decide) ?_
        refine j_iconst (pc := 37) (v := (0 : Int32)) hX dX9_run_37 (by decide) ?_
        refine j_istore (pc := 38) hX dX9_run_38 (by decide) (by decide) ?_
        refine j_sub (lv' := [(0, .ref 0), (2, .int a2), (3, .int r2), (4, .int a1), (5, .int (0 : Int32)), (6, .int (0 : Int32))]) ⟨rfl, rfl, rfl, rfl, rfl, rfl, trivial⟩ ?_
        exact tl_xc_run_L40 hX hdp hE _ _ _ _ _ _ h
      · replace h := ite_f z h
        refine j_iconst (pc := 21) (v := (-1 : Int32)) hX dX9_run_21 (by decide) ?_
        obtain ⟨h, h0⟩ := Prod.mk.inj (Option.some.inj h)
        subst h h0
        exact j_iret (pc := 22) hX hE rfl rfl dX9_run_22 (Nat.le_refl 0) (Nat.le_refl 0) ⟨rfl, rfl, rfl⟩

set_option maxHeartbeats 4000000 in
set_option maxRecDepth 100000 in
theorem t_xc_ran {l : Launch} {D : va_G} {G : Nat → ClassId} {d : Nat} (hdp : 0 ≤ d) {c r : jS} {vE : Int32} (h : xc_ran c = some vE) : jC l D G d M_xc_ran [.ref 0] (jmix c r) (some (.int vE)) (jmix c r) := by
  refine jM_of rfl (Nat.le_of_ble_eq_true rfl) ?_
  intro X hl hD hG _ _ hX hE _
  subst hl hD hG
  unfold xc_ran at h
  show J X 0 0 jN (jE (jmix c r)) [(0, .ref 0)] [] 0
  refine j_aload_n (pc := 0) hX dX9_ran_0 rfl rfl ?_
  refine k_getI (pc := 1) (x := (c 0 9)) hX fl_9_80 dX9_ran_1 rfl rfl rfl ?_
  replace h := Option.some.inj h
  subst h
  exact j_iret (pc := 4) hX hE rfl rfl dX9_ran_4 (Nat.le_refl 0) (Nat.le_refl 0) ⟨rfl, rfl, rfl⟩

