set_option maxHeartbeats 4000000 in
set_option maxRecDepth 100000 in
theorem tb_xReader_termHere {l : Launch} {D : va_G} {G : Nat → ClassId} {d : Nat} {e : Nat} {F_termHere : jS → Int32 → Option (Int32 × jS)} {F_functionHere : jS → Int32 → Option (Int32 × jS)} {F_termBehind : jS → Int32 → Int32 → Option (Int32 × jS)} {F_pairHere : jS → Int32 → Option (Int32 × jS)} {F_letHere : jS → Int32 → Option (Int32 × jS)} {F_choiceHere : jS → Int32 → Option (Int32 × jS)} (i0 : ∀ (c r : jS) (a1 : Int32) (vE : Int32) (cE : jS), F_termHere c a1 = some (vE, cE) → jC l D G e M_xReader_termHere [.ref 28, .int a1] (jmix c r) (some (.int vE)) (jmix cE r)) (i1 : ∀ (c r : jS) (a1 : Int32) (vE : Int32) (cE : jS), F_functionHere c a1 = some (vE, cE) → jC l D G e M_xReader_functionHere [.ref 28, .int a1] (jmix c r) (some (.int vE)) (jmix cE r)) (i2 : ∀ (c r : jS) (a1 : Int32) (a2 : Int32) (vE : Int32) (cE : jS), F_termBehind c a1 a2 = some (vE, cE) → jC l D G e M_xReader_termBehind [.ref 28, .int a1, .int a2] (jmix c r) (some (.int vE)) (jmix cE r)) (i3 : ∀ (c r : jS) (a1 : Int32) (vE : Int32) (cE : jS), F_pairHere c a1 = some (vE, cE) → jC l D G e M_xReader_pairHere [.ref 28, .int a1] (jmix c r) (some (.int vE)) (jmix cE r)) (i4 : ∀ (c r : jS) (a1 : Int32) (vE : Int32) (cE : jS), F_letHere c a1 = some (vE, cE) → jC l D G e M_xReader_letHere [.ref 28, .int a1] (jmix c r) (some (.int vE)) (jmix cE r)) (i5 : ∀ (c r : jS) (a1 : Int32) (vE : Int32) (cE : jS), F_choiceHere c a1 = some (vE, cE) → jC l D G e M_xReader_choiceHere [.ref 28, .int a1] (jmix c r) (some (.int vE)) (jmix cE r)) (hdp : 134 ≤ d) (hde : e + 1 ≤ d) {c r : jS} {a1 : Int32} {vE : Int32} {cE : jS} (h : b_xReader_termHere F_termHere F_functionHere F_termBehind F_pairHere F_letHere F_choiceHere c a1 = some (vE, cE)) : jC l D G d M_xReader_termHere [.ref 28, .int a1] (jmix c r) (some (.int vE)) (jmix cE r) := by
  refine jM_of rfl (Nat.le_of_ble_eq_true rfl) ?_
  intro X hl hD hG _ _ hX hE _
  subst hl hD hG
  unfold b_xReader_termHere at h
  show J X 0 0 jN (jE (jmix c r)) [(0, .ref 28), (1, .int a1)] [] 0
  refine j_aload_n (pc := 0) hX dX4_termHere_0 rfl rfl ?_
  obtain ⟨r1, h1, h⟩ := ob_some h
  refine k_callVI (pc := 1) (st := []) hX ln_4_62 dX4_termHere_1 (t_xReader_byteHere (d := 0) (Nat.le_refl _) h1) rfl rfl rfl (by omega) (Nat.le_of_ble_eq_true rfl) ?_
  refine j_istore_n (pc := 4) hX dX4_termHere_4 rfl (by decide) (by decide) ?_
  refine j_iload_n (pc := 5) hX dX4_termHere_5 rfl rfl ?_
  obtain ⟨r2, h1, h⟩ := ob_some h
  refine k_callSI (pc := 6) (st := []) hX ln_4_65 dX4_termHere_6 (t_xReader_beginsTerm (d := 1) (Nat.le_refl _) h1) rfl rfl (by omega) (Nat.le_of_ble_eq_true rfl) ?_
  refine j_if_ne (pc := 9) (tgt := 17) hX dX4_termHere_9 (by decide) (fun z => ?_) (fun z => ?_)
  · replace h := ite_f z h
    refine j_iload_n (pc := 17) hX dX4_termHere_17 rfl rfl ?_
    refine j_bipush (pc := 18) (v := (40 : Int32)) hX dX4_termHere_18 (by decide) ?_
    refine j_icmp_le (pc := 20) (tgt := 26) hX dX4_termHere_20 (by decide) (fun z => ?_) (fun z => ?_)
    · replace h := ite_t z h
      refine j_iload_n (pc := 26) hX dX4_termHere_26 rfl rfl ?_
      by_cases z40 : r1 = 40
      · replace h := ite_t z40 h
        refine j_look (pc := 27) (tgt := 74) (off := 47) hX dX4_termHere_27 (by decide) (by rw [z40]; first | done | rfl) (by decide) ?_
        refine j_aload_n (pc := 74) hX dX4_termHere_74 rfl rfl ?_
        refine j_iload_n (pc := 75) hX dX4_termHere_75 rfl rfl ?_
        obtain ⟨r3, c4, h1, h⟩ := bd_some h
        refine k_callVI (pc := 76) (st := []) hX ln_4_72 dX4_termHere_76 (i3 _ _ _ _ _ h1) rfl rfl rfl hde (Nat.le_of_ble_eq_true rfl) ?_
        obtain ⟨h, h0⟩ := Prod.mk.inj (Option.some.inj h)
        subst h h0
        exact j_iret (pc := 79) hX hE rfl rfl dX4_termHere_79 (Nat.le_refl 0) (Nat.le_refl 0) ⟨rfl, rfl, rfl⟩
      replace h := ite_f z40 h
      by_cases z91 : r1 = 91
      · replace h := ite_t z91 h
        refine j_look (pc := 27) (tgt := 80) (off := 53) hX dX4_termHere_27 (by decide) (by rw [z91]; first | done | rfl) (by decide) ?_
        refine j_aload_n (pc := 80) hX dX4_termHere_80 rfl rfl ?_
        refine j_iload_n (pc := 81) hX dX4_termHere_81 rfl rfl ?_
        obtain ⟨r5, c6, h1, h⟩ := bd_some h
        refine k_callVI (pc := 82) (st := []) hX ln_4_75 dX4_termHere_82 (i4 _ _ _ _ _ h1) rfl rfl rfl hde (Nat.le_of_ble_eq_true rfl) ?_
        obtain ⟨h, h0⟩ := Prod.mk.inj (Option.some.inj h)
        subst h h0
        exact j_iret (pc := 85) hX hE rfl rfl dX4_termHere_85 (Nat.le_refl 0) (Nat.le_refl 0) ⟨rfl, rfl, rfl⟩
      replace h := ite_f z91 h
      by_cases z92 : r1 = 92
      · replace h := ite_t z92 h
        refine j_look (pc := 27) (tgt := 68) (off := 41) hX dX4_termHere_27 (by decide) (by rw [z92]; first | done | rfl) (by decide) ?_
        refine j_aload_n (pc := 68) hX dX4_termHere_68 rfl rfl ?_
        refine j_iload_n (pc := 69) hX dX4_termHere_69 rfl rfl ?_
        obtain ⟨r7, c8, h1, h⟩ := bd_some h
        refine k_callVI (pc := 70) (st := []) hX ln_4_69 dX4_termHere_70 (i1 _ _ _ _ _ h1) rfl rfl rfl hde (Nat.le_of_ble_eq_true rfl) ?_
        obtain ⟨h, h0⟩ := Prod.mk.inj (Option.some.inj h)
        subst h h0
        exact j_iret (pc := 73) hX hE rfl rfl dX4_termHere_73 (Nat.le_refl 0) (Nat.le_refl 0) ⟨rfl, rfl, rfl⟩
      replace h := ite_f z92 h
      by_cases z123 : r1 = 123
      · replace h := ite_t z123 h
        refine j_look (pc := 27) (tgt := 86) (off := 59) hX dX4_termHere_27 (by decide) (by rw [z123]; first | done | rfl) (by decide) ?_
        refine j_aload_n (pc := 86) hX dX4_termHere_86 rfl rfl ?_
        refine j_iload_n (pc := 87) hX dX4_termHere_87 rfl rfl ?_
        obtain ⟨r9, c10, h1, h⟩ := bd_some h
        refine k_callVI (pc := 88) (st := []) hX ln_4_78 dX4_termHere_88 (i5 _ _ _ _ _ h1) rfl rfl rfl hde (Nat.le_of_ble_eq_true rfl) ?_
        obtain ⟨h, h0⟩ := Prod.mk.inj (Option.some.inj h)
        subst h h0
        exact j_iret (pc := 91) hX hE rfl rfl dX4_termHere_91 (Nat.le_refl 0) (Nat.le_refl 0) ⟨rfl, rfl, rfl⟩
      replace h := ite_f z123 h
      refine j_look (pc := 27) (tgt := 92) (off := 65) hX dX4_termHere_27 (by decide) (by show Op.lookupswitch.offset _ _ _ = _; rw [lv_osw z40 (by decide), lv_osw z91 (by decide), lv_osw z92 (by decide), lv_osw z123 (by decide)]; first | done | rfl) (by decide) ?_
      refine j_iload_n (pc := 92) hX dX4_termHere_92 rfl rfl ?_
      refine j_bipush (pc := 93) (v := (97 : Int32)) hX dX4_termHere_93 (by decide) ?_
      refine j_isub (pc := 95) hX dX4_termHere_95 ?_
      obtain ⟨r11, h1, h⟩ := ob_some h
      refine k_callNI (pc := 96) (st := []) hX ln_4_81 dX4_termHere_96 (t_xc_isLetter (d := 0) (Nat.le_refl _) h1) rfl rfl (by omega) (Nat.le_of_ble_eq_true rfl) ?_
      refine j_if_eq (pc := 99) (tgt := 109) hX dX4_termHere_99 (by decide) (fun z => ?_) (fun z => ?_)
      · replace h := ite_t z h
        refine j_aload_n (pc := 109) hX dX4_termHere_109 rfl rfl ?_
        obtain ⟨r12, c13, h1, h⟩ := bd_some h
        refine k_callVI (pc := 110) (st := []) hX ln_4_87 dX4_termHere_110 (t_xReader_numberHere (d := 4) (Nat.le_refl _) h1) rfl rfl rfl (by omega) (Nat.le_of_ble_eq_true rfl) ?_
        obtain ⟨h, h0⟩ := Prod.mk.inj (Option.some.inj h)
        subst h h0
        exact j_iret (pc := 113) hX hE rfl rfl dX4_termHere_113 (Nat.le_refl 0) (Nat.le_refl 0) ⟨rfl, rfl, rfl⟩
      · replace h := ite_f z h
        refine j_aload_n (pc := 102) hX dX4_termHere_102 rfl rfl ?_
        obtain ⟨r14, c15, h1, h⟩ := bd_some h
        refine k_callVI (pc := 103) (st := []) hX ln_4_84 dX4_termHere_103 (t_xReader_nameHere (d := 4) (Nat.le_refl _) h1) rfl rfl rfl (by omega) (Nat.le_of_ble_eq_true rfl) ?_
        refine j_goto (pc := 106) (tgt := 113) hX dX4_termHere_106 (by decide) ?_
        obtain ⟨h, h0⟩ := Prod.mk.inj (Option.some.inj h)
        subst h h0
        exact j_iret (pc := 113) hX hE rfl rfl dX4_termHere_113 (Nat.le_refl 0) (Nat.le_refl 0) ⟨rfl, rfl, rfl⟩
    · replace h := ite_f z h
      refine j_bipush (pc := 23) (v := (-3 : Int32)) hX dX4_termHere_23 (by decide) ?_
      obtain ⟨h, h0⟩ := Prod.mk.inj (Option.some.inj h)
      subst h h0
      exact j_iret (pc := 25) hX hE rfl rfl dX4_termHere_25 (Nat.le_refl 0) (Nat.le_refl 0) ⟨rfl, rfl, rfl⟩
  · replace h := ite_t z h
    refine j_aload_n (pc := 12) hX dX4_termHere_12 rfl rfl ?_
    obtain ⟨r16, h1, h⟩ := ob_some h
    refine k_callVI (pc := 13) (st := []) hX ln_4_55 dX4_termHere_13 (t_xReader_wrongHere (d := 0) (Nat.le_refl _) h1) rfl rfl rfl (by omega) (Nat.le_of_ble_eq_true rfl) ?_
    obtain ⟨h, h0⟩ := Prod.mk.inj (Option.some.inj h)
    subst h h0
    exact j_iret (pc := 16) hX hE rfl rfl dX4_termHere_16 (Nat.le_refl 0) (Nat.le_refl 0) ⟨rfl, rfl, rfl⟩

set_option maxHeartbeats 4000000 in
set_option maxRecDepth 100000 in
theorem tb_xReader_functionHere {l : Launch} {D : va_G} {G : Nat → ClassId} {d : Nat} {e : Nat} {F_termHere : jS → Int32 → Option (Int32 × jS)} {F_functionHere : jS → Int32 → Option (Int32 × jS)} {F_termBehind : jS → Int32 → Int32 → Option (Int32 × jS)} {F_pairHere : jS → Int32 → Option (Int32 × jS)} {F_letHere : jS → Int32 → Option (Int32 × jS)} {F_choiceHere : jS → Int32 → Option (Int32 × jS)} (i0 : ∀ (c r : jS) (a1 : Int32) (vE : Int32) (cE : jS), F_termHere c a1 = some (vE, cE) → jC l D G e M_xReader_termHere [.ref 28, .int a1] (jmix c r) (some (.int vE)) (jmix cE r)) (i1 : ∀ (c r : jS) (a1 : Int32) (vE : Int32) (cE : jS), F_functionHere c a1 = some (vE, cE) → jC l D G e M_xReader_functionHere [.ref 28, .int a1] (jmix c r) (some (.int vE)) (jmix cE r)) (i2 : ∀ (c r : jS) (a1 : Int32) (a2 : Int32) (vE : Int32) (cE : jS), F_termBehind c a1 a2 = some (vE, cE) → jC l D G e M_xReader_termBehind [.ref 28, .int a1, .int a2] (jmix c r) (some (.int vE)) (jmix cE r)) (i3 : ∀ (c r : jS) (a1 : Int32) (vE : Int32) (cE : jS), F_pairHere c a1 = some (vE, cE) → jC l D G e M_xReader_pairHere [.ref 28, .int a1] (jmix c r) (some (.int vE)) (jmix cE r)) (i4 : ∀ (c r : jS) (a1 : Int32) (vE : Int32) (cE : jS), F_letHere c a1 = some (vE, cE) → jC l D G e M_xReader_letHere [.ref 28, .int a1] (jmix c r) (some (.int vE)) (jmix cE r)) (i5 : ∀ (c r : jS) (a1 : Int32) (vE : Int32) (cE : jS), F_choiceHere c a1 = some (vE, cE) → jC l D G e M_xReader_choiceHere [.ref 28, .int a1] (jmix c r) (some (.int vE)) (jmix cE r)) (hdp : 134 ≤ d) (hde : e + 1 ≤ d) {c r : jS} {a1 : Int32} {vE : Int32} {cE : jS} (h : b_xReader_functionHere F_termHere F_functionHere F_termBehind F_pairHere F_letHere F_choiceHere c a1 = some (vE, cE)) : jC l D G d M_xReader_functionHere [.ref 28, .int a1] (jmix c r) (some (.int vE)) (jmix cE r) := by
  refine jM_of rfl (Nat.le_of_ble_eq_true rfl) ?_
  intro X hl hD hG _ _ hX hE _
  subst hl hD hG
  unfold b_xReader_functionHere at h
  show J X 0 0 jN (jE (jmix c r)) [(0, .ref 28), (1, .int a1)] [] 0
  refine j_aload_n (pc := 0) hX dX4_functionHere_0 rfl rfl ?_
  refine j_bipush (pc := 1) (v := (92 : Int32)) hX dX4_functionHere_1 (by decide) ?_
  obtain ⟨r1, c2, h1, h⟩ := bd_some h
  refine k_callVI (pc := 3) (st := []) hX ln_4_101 dX4_functionHere_3 (t_xReader_letterBehind (d := 2) (Nat.le_refl _) h1) rfl rfl rfl (by omega) (Nat.le_of_ble_eq_true rfl) ?_
  refine j_istore_n (pc := 6) hX dX4_functionHere_6 rfl (by decide) (by decide) ?_
  refine j_iload_n (pc := 7) hX dX4_functionHere_7 rfl rfl ?_
  refine j_if_ge (pc := 8) (tgt := 13) hX dX4_functionHere_8 (by decide) (fun z => ?_) (fun z => ?_)
  · replace h := ite_t z h
    refine j_aload_n (pc := 13) hX dX4_functionHere_13 rfl rfl ?_
    refine j_bipush (pc := 14) (v := (58 : Int32)) hX dX4_functionHere_14 (by decide) ?_
    obtain ⟨r3, c4, h1, h⟩ := bd_some h
    refine k_callVI (pc := 16) (st := []) hX ln_4_104 dX4_functionHere_16 (t_xReader_pass (d := 1) (Nat.le_refl _) h1) rfl rfl rfl (by omega) (Nat.le_of_ble_eq_true rfl) ?_
    refine j_istore_n (pc := 19) hX dX4_functionHere_19 rfl (by decide) (by decide) ?_
    refine j_iload_n (pc := 20) hX dX4_functionHere_20 rfl rfl ?_
    refine j_if_ge (pc := 21) (tgt := 26) hX dX4_functionHere_21 (by decide) (fun z => ?_) (fun z => ?_)
    · replace h := ite_t z h
      refine j_aload_n (pc := 26) hX dX4_functionHere_26 rfl rfl ?_
      refine j_iload_n (pc := 27) hX dX4_functionHere_27 rfl rfl ?_
      refine j_iconst (pc := 28) (v := (1 : Int32)) hX dX4_functionHere_28 (by decide) ?_
      refine j_iadd (pc := 29) hX dX4_functionHere_29 ?_
      obtain ⟨r5, c6, h1, h⟩ := bd_some h
      refine k_callVI (pc := 30) (st := []) hX ln_4_107 dX4_functionHere_30 (t_xReader_typeHere h1) rfl rfl rfl (by omega) (Nat.le_of_ble_eq_true rfl) ?_
      refine j_istore (pc := 33) hX dX4_functionHere_33 (by decide) (by decide) ?_
      refine j_iload (pc := 35) hX dX4_functionHere_35 rfl ?_
      refine j_if_ge (pc := 37) (tgt := 43) hX dX4_functionHere_37 (by decide) (fun z => ?_) (fun z => ?_)
      · replace h := ite_t z h
        refine j_aload_n (pc := 43) hX dX4_functionHere_43 rfl rfl ?_
        refine j_bipush (pc := 44) (v := (46 : Int32)) hX dX4_functionHere_44 (by decide) ?_
        refine j_iload_n (pc := 46) hX dX4_functionHere_46 rfl rfl ?_
        refine j_iconst (pc := 47) (v := (1 : Int32)) hX dX4_functionHere_47 (by decide) ?_
        refine j_iadd (pc := 48) hX dX4_functionHere_48 ?_
        obtain ⟨r7, c8, h1, h⟩ := bd_some h
        refine k_callVI (pc := 49) (st := []) hX ln_4_110 dX4_functionHere_49 (i2 _ _ _ _ _ _ h1) rfl rfl rfl hde (Nat.le_of_ble_eq_true rfl) ?_
        refine j_istore (pc := 52) hX dX4_functionHere_52 (by decide) (by decide) ?_
        refine j_iload (pc := 54) hX dX4_functionHere_54 rfl ?_
        refine j_if_ge (pc := 56) (tgt := 64) hX dX4_functionHere_56 (by decide) (fun z => ?_) (fun z => ?_)
        · replace h := ite_t z h
          refine j_aload_n (pc := 64) hX dX4_functionHere_64 rfl rfl ?_
          refine k_getR (pc := 65) (q := 5) hX fl_4_19 dX4_functionHere_65 rfl rfl ?_
          refine j_iload_n (pc := 68) hX dX4_functionHere_68 rfl rfl ?_
          refine j_iload (pc := 69) hX dX4_functionHere_69 rfl ?_
          refine j_iload (pc := 71) hX dX4_functionHere_71 rfl ?_
          obtain ⟨r9, c10, h1, h⟩ := bd_some h
          refine k_callVI (pc := 73) (st := []) hX ln_4_114 dX4_functionHere_73 (t_xTerms_newFunction (d := 3) (Nat.le_refl _) h1) rfl rfl rfl (by omega) (Nat.le_of_ble_eq_true rfl) ?_
          obtain ⟨h, h0⟩ := Prod.mk.inj (Option.some.inj h)
          subst h h0
          exact j_iret (pc := 76) hX hE rfl rfl dX4_functionHere_76 (Nat.le_refl 0) (Nat.le_refl 0) ⟨rfl, rfl, rfl⟩
        · replace h := ite_f z h
          refine j_iload (pc := 59) hX dX4_functionHere_59 rfl ?_
          refine j_goto (pc := 61) (tgt := 76) hX dX4_functionHere_61 (by decide) ?_
          obtain ⟨h, h0⟩ := Prod.mk.inj (Option.some.inj h)
          subst h h0
          exact j_iret (pc := 76) hX hE rfl rfl dX4_functionHere_76 (Nat.le_refl 0) (Nat.le_refl 0) ⟨rfl, rfl, rfl⟩
      · replace h := ite_f z h
        refine j_iload (pc := 40) hX dX4_functionHere_40 rfl ?_
        obtain ⟨h, h0⟩ := Prod.mk.inj (Option.some.inj h)
        subst h h0
        exact j_iret (pc := 42) hX hE rfl rfl dX4_functionHere_42 (Nat.le_refl 0) (Nat.le_refl 0) ⟨rfl, rfl, rfl⟩
    · replace h := ite_f z h
      refine j_iload_n (pc := 24) hX dX4_functionHere_24 rfl rfl ?_
      obtain ⟨h, h0⟩ := Prod.mk.inj (Option.some.inj h)
      subst h h0
      exact j_iret (pc := 25) hX hE rfl rfl dX4_functionHere_25 (Nat.le_refl 0) (Nat.le_refl 0) ⟨rfl, rfl, rfl⟩
  · replace h := ite_f z h
    refine j_iload_n (pc := 11) hX dX4_functionHere_11 rfl rfl ?_
    obtain ⟨h, h0⟩ := Prod.mk.inj (Option.some.inj h)
    subst h h0
    exact j_iret (pc := 12) hX hE rfl rfl dX4_functionHere_12 (Nat.le_refl 0) (Nat.le_refl 0) ⟨rfl, rfl, rfl⟩

set_option maxHeartbeats 4000000 in
set_option maxRecDepth 100000 in
theorem tb_xReader_termBehind {l : Launch} {D : va_G} {G : Nat → ClassId} {d : Nat} {e : Nat} {F_termHere : jS → Int32 → Option (Int32 × jS)} {F_functionHere : jS → Int32 → Option (Int32 × jS)} {F_termBehind : jS → Int32 → Int32 → Option (Int32 × jS)} {F_pairHere : jS → Int32 → Option (Int32 × jS)} {F_letHere : jS → Int32 → Option (Int32 × jS)} {F_choiceHere : jS → Int32 → Option (Int32 × jS)} (i0 : ∀ (c r : jS) (a1 : Int32) (vE : Int32) (cE : jS), F_termHere c a1 = some (vE, cE) → jC l D G e M_xReader_termHere [.ref 28, .int a1] (jmix c r) (some (.int vE)) (jmix cE r)) (i1 : ∀ (c r : jS) (a1 : Int32) (vE : Int32) (cE : jS), F_functionHere c a1 = some (vE, cE) → jC l D G e M_xReader_functionHere [.ref 28, .int a1] (jmix c r) (some (.int vE)) (jmix cE r)) (i2 : ∀ (c r : jS) (a1 : Int32) (a2 : Int32) (vE : Int32) (cE : jS), F_termBehind c a1 a2 = some (vE, cE) → jC l D G e M_xReader_termBehind [.ref 28, .int a1, .int a2] (jmix c r) (some (.int vE)) (jmix cE r)) (i3 : ∀ (c r : jS) (a1 : Int32) (vE : Int32) (cE : jS), F_pairHere c a1 = some (vE, cE) → jC l D G e M_xReader_pairHere [.ref 28, .int a1] (jmix c r) (some (.int vE)) (jmix cE r)) (i4 : ∀ (c r : jS) (a1 : Int32) (vE : Int32) (cE : jS), F_letHere c a1 = some (vE, cE) → jC l D G e M_xReader_letHere [.ref 28, .int a1] (jmix c r) (some (.int vE)) (jmix cE r)) (i5 : ∀ (c r : jS) (a1 : Int32) (vE : Int32) (cE : jS), F_choiceHere c a1 = some (vE, cE) → jC l D G e M_xReader_choiceHere [.ref 28, .int a1] (jmix c r) (some (.int vE)) (jmix cE r)) (hdp : 134 ≤ d) (hde : e + 1 ≤ d) {c r : jS} {a1 : Int32} {a2 : Int32} {vE : Int32} {cE : jS} (h : b_xReader_termBehind F_termHere F_functionHere F_termBehind F_pairHere F_letHere F_choiceHere c a1 a2 = some (vE, cE)) : jC l D G d M_xReader_termBehind [.ref 28, .int a1, .int a2] (jmix c r) (some (.int vE)) (jmix cE r) := by
  refine jM_of rfl (Nat.le_of_ble_eq_true rfl) ?_
  intro X hl hD hG _ _ hX hE _
  subst hl hD hG
  unfold b_xReader_termBehind at h
  show J X 0 0 jN (jE (jmix c r)) [(0, .ref 28), (1, .int a1), (2, .int a2)] [] 0
  refine j_aload_n (pc := 0) hX dX4_termBehind_0 rfl rfl ?_
  refine j_iload_n (pc := 1) hX dX4_termBehind_1 rfl rfl ?_
  obtain ⟨r1, c2, h1, h⟩ := bd_some h
  refine k_callVI (pc := 2) (st := []) hX ln_4_104 dX4_termBehind_2 (t_xReader_pass (d := 1) (Nat.le_refl _) h1) rfl rfl rfl (by omega) (Nat.le_of_ble_eq_true rfl) ?_
  refine j_istore_n (pc := 5) hX dX4_termBehind_5 rfl (by decide) (by decide) ?_
  refine j_iload_n (pc := 6) hX dX4_termBehind_6 rfl rfl ?_
  refine j_if_ge (pc := 7) (tgt := 14) hX dX4_termBehind_7 (by decide) (fun z => ?_) (fun z => ?_)
  · replace h := ite_t z h
    refine j_aload_n (pc := 14) hX dX4_termBehind_14 rfl rfl ?_
    refine j_iload_n (pc := 15) hX dX4_termBehind_15 rfl rfl ?_
    obtain ⟨r3, c4, h1, h⟩ := bd_some h
    refine k_callVI (pc := 16) (st := []) hX ln_4_52 dX4_termBehind_16 (i0 _ _ _ _ _ h1) rfl rfl rfl hde (Nat.le_of_ble_eq_true rfl) ?_
    obtain ⟨h, h0⟩ := Prod.mk.inj (Option.some.inj h)
    subst h h0
    exact j_iret (pc := 19) hX hE rfl rfl dX4_termBehind_19 (Nat.le_refl 0) (Nat.le_refl 0) ⟨rfl, rfl, rfl⟩
  · replace h := ite_f z h
    refine j_iload_n (pc := 10) hX dX4_termBehind_10 rfl rfl ?_
    refine j_goto (pc := 11) (tgt := 19) hX dX4_termBehind_11 (by decide) ?_
    obtain ⟨h, h0⟩ := Prod.mk.inj (Option.some.inj h)
    subst h h0
    exact j_iret (pc := 19) hX hE rfl rfl dX4_termBehind_19 (Nat.le_refl 0) (Nat.le_refl 0) ⟨rfl, rfl, rfl⟩

set_option maxHeartbeats 4000000 in
set_option maxRecDepth 100000 in
theorem tj_xReader_pairHere_P38 {X : jX} {d : Nat} {e : Nat} {F_termHere : jS → Int32 → Option (Int32 × jS)} {F_functionHere : jS → Int32 → Option (Int32 × jS)} {F_termBehind : jS → Int32 → Int32 → Option (Int32 × jS)} {F_pairHere : jS → Int32 → Option (Int32 × jS)} {F_letHere : jS → Int32 → Option (Int32 × jS)} {F_choiceHere : jS → Int32 → Option (Int32 × jS)} (i0 : ∀ (c r : jS) (a1 : Int32) (vE : Int32) (cE : jS), F_termHere c a1 = some (vE, cE) → jC X.l X.D X.G e M_xReader_termHere [.ref 28, .int a1] (jmix c r) (some (.int vE)) (jmix cE r)) (i1 : ∀ (c r : jS) (a1 : Int32) (vE : Int32) (cE : jS), F_functionHere c a1 = some (vE, cE) → jC X.l X.D X.G e M_xReader_functionHere [.ref 28, .int a1] (jmix c r) (some (.int vE)) (jmix cE r)) (i2 : ∀ (c r : jS) (a1 : Int32) (a2 : Int32) (vE : Int32) (cE : jS), F_termBehind c a1 a2 = some (vE, cE) → jC X.l X.D X.G e M_xReader_termBehind [.ref 28, .int a1, .int a2] (jmix c r) (some (.int vE)) (jmix cE r)) (i3 : ∀ (c r : jS) (a1 : Int32) (vE : Int32) (cE : jS), F_pairHere c a1 = some (vE, cE) → jC X.l X.D X.G e M_xReader_pairHere [.ref 28, .int a1] (jmix c r) (some (.int vE)) (jmix cE r)) (i4 : ∀ (c r : jS) (a1 : Int32) (vE : Int32) (cE : jS), F_letHere c a1 = some (vE, cE) → jC X.l X.D X.G e M_xReader_letHere [.ref 28, .int a1] (jmix c r) (some (.int vE)) (jmix cE r)) (i5 : ∀ (c r : jS) (a1 : Int32) (vE : Int32) (cE : jS), F_choiceHere c a1 = some (vE, cE) → jC X.l X.D X.G e M_xReader_choiceHere [.ref 28, .int a1] (jmix c r) (some (.int vE)) (jmix cE r)) {r : jS} {vE : Int32} {cE : jS} (hX : jOk X RX4 cX4_pairHere 6 d) (hdp : 134 ≤ d) (hde : e + 1 ≤ d) (hE : jEnd X (some .int) 0 0 (fun r0 n0 h0 => r0 = (some (.int vE)) ∧ n0 = jN ∧ h0 = jE (jmix cE r))) : ∀ (v1 : Int32) (v2 : Int32) (v3 : Int32) (c : jS), xReader_pairHere_P38 F_termHere F_functionHere F_termBehind F_pairHere F_letHere F_choiceHere v1 v2 v3 c = some (vE, cE) → J X 0 0 jN (jE (jmix c r)) [(0, .ref 28), (1, .int v1), (2, .int v2), (3, .int v3)] [] 38 := by
  intro v1 v2 v3 c h
  unfold xReader_pairHere_P38 at h
  refine j_aload_n (pc := 38) hX dX4_pairHere_38 rfl rfl ?_
  refine j_iload_n (pc := 39) hX dX4_pairHere_39 rfl rfl ?_
  refine j_iload_n (pc := 40) hX dX4_pairHere_40 rfl rfl ?_
  refine j_iconst (pc := 41) (v := (1 : Int32)) hX dX4_pairHere_41 (by decide) ?_
  refine j_iadd (pc := 42) hX dX4_pairHere_42 ?_
  obtain ⟨r4, c5, h1, h⟩ := bd_some h
  refine k_callVI (pc := 43) (st := []) hX ln_4_110 dX4_pairHere_43 (i2 _ _ _ _ _ _ h1) rfl rfl rfl hde (Nat.le_of_ble_eq_true rfl) ?_
  refine j_istore (pc := 46) hX dX4_pairHere_46 (by decide) (by decide) ?_
  refine j_iload (pc := 48) hX dX4_pairHere_48 rfl ?_
  refine j_if_ge (pc := 50) (tgt := 56) hX dX4_pairHere_50 (by decide) (fun z => ?_) (fun z => ?_)
  · replace h := ite_t z h
    refine j_aload_n (pc := 56) hX dX4_pairHere_56 rfl rfl ?_
    refine j_bipush (pc := 57) (v := (41 : Int32)) hX dX4_pairHere_57 (by decide) ?_
    obtain ⟨r6, c7, h1, h⟩ := bd_some h
    refine k_callVI (pc := 59) (st := []) hX ln_4_104 dX4_pairHere_59 (t_xReader_pass (d := 1) (Nat.le_refl _) h1) rfl rfl rfl (by omega) (Nat.le_of_ble_eq_true rfl) ?_
    refine j_istore (pc := 62) hX dX4_pairHere_62 (by decide) (by decide) ?_
    refine j_iload (pc := 64) hX dX4_pairHere_64 rfl ?_
    refine j_if_ge (pc := 66) (tgt := 74) hX dX4_pairHere_66 (by decide) (fun z => ?_) (fun z => ?_)
    · replace h := ite_t z h
      refine j_aload_n (pc := 74) hX dX4_pairHere_74 rfl rfl ?_
      refine k_getR (pc := 75) (q := 5) hX fl_4_19 dX4_pairHere_75 rfl rfl ?_
      refine j_iload_n (pc := 78) hX dX4_pairHere_78 rfl rfl ?_
      refine j_bipush (pc := 79) (v := (32 : Int32)) hX dX4_pairHere_79 (by decide) ?_
      refine j_icmp_ne (pc := 81) (tgt := 88) hX dX4_pairHere_81 (by decide) (fun z => ?_) (fun z => ?_)
      · replace h := ite_f z h
        refine j_iconst (pc := 88) (v := (5 : Int32)) hX dX4_pairHere_88 (by decide) ?_
        refine j_iload_n (pc := 89) hX dX4_pairHere_89 rfl rfl ?_
        refine j_iload (pc := 90) hX dX4_pairHere_90 rfl ?_
        refine j_bipush (pc := 92) (v := (-2 : Int32)) hX dX4_pairHere_92 (by decide) ?_
        obtain ⟨r8, c9, h1, h⟩ := bd_some h
        refine k_callVI (pc := 94) (st := []) hX ln_4_118 dX4_pairHere_94 (t_xTerms_newJoined (d := 3) (Nat.le_refl _) h1) rfl rfl rfl (by omega) (Nat.le_of_ble_eq_true rfl) ?_
        obtain ⟨h, h0⟩ := Prod.mk.inj (Option.some.inj h)
        subst h h0
        exact j_iret (pc := 97) hX hE rfl rfl dX4_pairHere_97 (Nat.le_refl 0) (Nat.le_refl 0) ⟨rfl, rfl, rfl⟩
      · replace h := ite_t z h
        refine j_iconst (pc := 84) (v := (3 : Int32)) hX dX4_pairHere_84 (by decide) ?_
        refine j_goto (pc := 85) (tgt := 89) hX dX4_pairHere_85 (by decide) ?_
        refine j_iload_n (pc := 89) hX dX4_pairHere_89 rfl rfl ?_
        refine j_iload (pc := 90) hX dX4_pairHere_90 rfl ?_
        refine j_bipush (pc := 92) (v := (-2 : Int32)) hX dX4_pairHere_92 (by decide) ?_
        obtain ⟨r10, c11, h1, h⟩ := bd_some h
        refine k_callVI (pc := 94) (st := []) hX ln_4_118 dX4_pairHere_94 (t_xTerms_newJoined (d := 3) (Nat.le_refl _) h1) rfl rfl rfl (by omega) (Nat.le_of_ble_eq_true rfl) ?_
        obtain ⟨h, h0⟩ := Prod.mk.inj (Option.some.inj h)
        subst h h0
        exact j_iret (pc := 97) hX hE rfl rfl dX4_pairHere_97 (Nat.le_refl 0) (Nat.le_refl 0) ⟨rfl, rfl, rfl⟩
    · replace h := ite_f z h
      refine j_iload (pc := 69) hX dX4_pairHere_69 rfl ?_
      refine j_goto (pc := 71) (tgt := 97) hX dX4_pairHere_71 (by decide) ?_
      obtain ⟨h, h0⟩ := Prod.mk.inj (Option.some.inj h)
      subst h h0
      exact j_iret (pc := 97) hX hE rfl rfl dX4_pairHere_97 (Nat.le_refl 0) (Nat.le_refl 0) ⟨rfl, rfl, rfl⟩
  · replace h := ite_f z h
    refine j_iload (pc := 53) hX dX4_pairHere_53 rfl ?_
    obtain ⟨h, h0⟩ := Prod.mk.inj (Option.some.inj h)
    subst h h0
    exact j_iret (pc := 55) hX hE rfl rfl dX4_pairHere_55 (Nat.le_refl 0) (Nat.le_refl 0) ⟨rfl, rfl, rfl⟩
set_option maxHeartbeats 4000000 in
set_option maxRecDepth 100000 in
theorem tb_xReader_pairHere {l : Launch} {D : va_G} {G : Nat → ClassId} {d : Nat} {e : Nat} {F_termHere : jS → Int32 → Option (Int32 × jS)} {F_functionHere : jS → Int32 → Option (Int32 × jS)} {F_termBehind : jS → Int32 → Int32 → Option (Int32 × jS)} {F_pairHere : jS → Int32 → Option (Int32 × jS)} {F_letHere : jS → Int32 → Option (Int32 × jS)} {F_choiceHere : jS → Int32 → Option (Int32 × jS)} (i0 : ∀ (c r : jS) (a1 : Int32) (vE : Int32) (cE : jS), F_termHere c a1 = some (vE, cE) → jC l D G e M_xReader_termHere [.ref 28, .int a1] (jmix c r) (some (.int vE)) (jmix cE r)) (i1 : ∀ (c r : jS) (a1 : Int32) (vE : Int32) (cE : jS), F_functionHere c a1 = some (vE, cE) → jC l D G e M_xReader_functionHere [.ref 28, .int a1] (jmix c r) (some (.int vE)) (jmix cE r)) (i2 : ∀ (c r : jS) (a1 : Int32) (a2 : Int32) (vE : Int32) (cE : jS), F_termBehind c a1 a2 = some (vE, cE) → jC l D G e M_xReader_termBehind [.ref 28, .int a1, .int a2] (jmix c r) (some (.int vE)) (jmix cE r)) (i3 : ∀ (c r : jS) (a1 : Int32) (vE : Int32) (cE : jS), F_pairHere c a1 = some (vE, cE) → jC l D G e M_xReader_pairHere [.ref 28, .int a1] (jmix c r) (some (.int vE)) (jmix cE r)) (i4 : ∀ (c r : jS) (a1 : Int32) (vE : Int32) (cE : jS), F_letHere c a1 = some (vE, cE) → jC l D G e M_xReader_letHere [.ref 28, .int a1] (jmix c r) (some (.int vE)) (jmix cE r)) (i5 : ∀ (c r : jS) (a1 : Int32) (vE : Int32) (cE : jS), F_choiceHere c a1 = some (vE, cE) → jC l D G e M_xReader_choiceHere [.ref 28, .int a1] (jmix c r) (some (.int vE)) (jmix cE r)) (hdp : 134 ≤ d) (hde : e + 1 ≤ d) {c r : jS} {a1 : Int32} {vE : Int32} {cE : jS} (h : b_xReader_pairHere F_termHere F_functionHere F_termBehind F_pairHere F_letHere F_choiceHere c a1 = some (vE, cE)) : jC l D G d M_xReader_pairHere [.ref 28, .int a1] (jmix c r) (some (.int vE)) (jmix cE r) := by
  refine jM_of rfl (Nat.le_of_ble_eq_true rfl) ?_
  intro X hl hD hG _ _ hX hE _
  subst hl hD hG
  unfold b_xReader_pairHere at h
  show J X 0 0 jN (jE (jmix c r)) [(0, .ref 28), (1, .int a1)] [] 0
  refine j_aload_n (pc := 0) hX dX4_pairHere_0 rfl rfl ?_
  refine j_bipush (pc := 1) (v := (40 : Int32)) hX dX4_pairHere_1 (by decide) ?_
  refine j_iload_n (pc := 3) hX dX4_pairHere_3 rfl rfl ?_
  refine j_iconst (pc := 4) (v := (1 : Int32)) hX dX4_pairHere_4 (by decide) ?_
  refine j_iadd (pc := 5) hX dX4_pairHere_5 ?_
  obtain ⟨r1, c2, h1, h⟩ := bd_some h
  refine k_callVI (pc := 6) (st := []) hX ln_4_110 dX4_pairHere_6 (i2 _ _ _ _ _ _ h1) rfl rfl rfl hde (Nat.le_of_ble_eq_true rfl) ?_
  refine j_istore_n (pc := 9) hX dX4_pairHere_9 rfl (by decide) (by decide) ?_
  refine j_iload_n (pc := 10) hX dX4_pairHere_10 rfl rfl ?_
  refine j_if_ge (pc := 11) (tgt := 16) hX dX4_pairHere_11 (by decide) (fun z => ?_) (fun z => ?_)
  · replace h := ite_t z h
    refine j_aload_n (pc := 16) hX dX4_pairHere_16 rfl rfl ?_
    obtain ⟨r3, h1, h⟩ := ob_some h
    refine k_callVI (pc := 17) (st := []) hX ln_4_62 dX4_pairHere_17 (t_xReader_byteHere (d := 0) (Nat.le_refl _) h1) rfl rfl rfl (by omega) (Nat.le_of_ble_eq_true rfl) ?_
    refine j_istore_n (pc := 20) hX dX4_pairHere_20 rfl (by decide) (by decide) ?_
    refine j_iload_n (pc := 21) hX dX4_pairHere_21 rfl rfl ?_
    refine j_bipush (pc := 22) (v := (32 : Int32)) hX dX4_pairHere_22 (by decide) ?_
    refine j_icmp_eq (pc := 24) (tgt := 38) hX dX4_pairHere_24 (by decide) (fun z => ?_) (fun z => ?_)
    · replace h := ite_t z h
      refine j_sub (lv' := [(0, .ref 28), (1, .int a1), (2, .int r1), (3, .int r3)]) ⟨rfl, rfl, rfl, rfl, trivial⟩ ?_
      exact tj_xReader_pairHere_P38 i0 i1 i2 i3 i4 i5 hX hdp hde hE _ _ _ _ h
    · replace h := ite_f z h
      refine j_iload_n (pc := 27) hX dX4_pairHere_27 rfl rfl ?_
      refine j_bipush (pc := 28) (v := (43 : Int32)) hX dX4_pairHere_28 (by decide) ?_
      refine j_icmp_eq (pc := 30) (tgt := 38) hX dX4_pairHere_30 (by decide) (fun z => ?_) (fun z => ?_)
      · replace h := ite_t z h
        refine j_sub (lv' := [(0, .ref 28), (1, .int a1), (2, .int r1), (3, .int r3)]) ⟨rfl, rfl, rfl, rfl, trivial⟩ ?_
        exact tj_xReader_pairHere_P38 i0 i1 i2 i3 i4 i5 hX hdp hde hE _ _ _ _ h
      · replace h := ite_f z h
        refine j_aload_n (pc := 33) hX dX4_pairHere_33 rfl rfl ?_
        obtain ⟨r12, h1, h⟩ := ob_some h
        refine k_callVI (pc := 34) (st := []) hX ln_4_55 dX4_pairHere_34 (t_xReader_wrongHere (d := 0) (Nat.le_refl _) h1) rfl rfl rfl (by omega) (Nat.le_of_ble_eq_true rfl) ?_
        obtain ⟨h, h0⟩ := Prod.mk.inj (Option.some.inj h)
        subst h h0
        exact j_iret (pc := 37) hX hE rfl rfl dX4_pairHere_37 (Nat.le_refl 0) (Nat.le_refl 0) ⟨rfl, rfl, rfl⟩
  · replace h := ite_f z h
    refine j_iload_n (pc := 14) hX dX4_pairHere_14 rfl rfl ?_
    obtain ⟨h, h0⟩ := Prod.mk.inj (Option.some.inj h)
    subst h h0
    exact j_iret (pc := 15) hX hE rfl rfl dX4_pairHere_15 (Nat.le_refl 0) (Nat.le_refl 0) ⟨rfl, rfl, rfl⟩

set_option maxHeartbeats 4000000 in
set_option maxRecDepth 100000 in
theorem tb_xReader_letHere {l : Launch} {D : va_G} {G : Nat → ClassId} {d : Nat} {e : Nat} {F_termHere : jS → Int32 → Option (Int32 × jS)} {F_functionHere : jS → Int32 → Option (Int32 × jS)} {F_termBehind : jS → Int32 → Int32 → Option (Int32 × jS)} {F_pairHere : jS → Int32 → Option (Int32 × jS)} {F_letHere : jS → Int32 → Option (Int32 × jS)} {F_choiceHere : jS → Int32 → Option (Int32 × jS)} (i0 : ∀ (c r : jS) (a1 : Int32) (vE : Int32) (cE : jS), F_termHere c a1 = some (vE, cE) → jC l D G e M_xReader_termHere [.ref 28, .int a1] (jmix c r) (some (.int vE)) (jmix cE r)) (i1 : ∀ (c r : jS) (a1 : Int32) (vE : Int32) (cE : jS), F_functionHere c a1 = some (vE, cE) → jC l D G e M_xReader_functionHere [.ref 28, .int a1] (jmix c r) (some (.int vE)) (jmix cE r)) (i2 : ∀ (c r : jS) (a1 : Int32) (a2 : Int32) (vE : Int32) (cE : jS), F_termBehind c a1 a2 = some (vE, cE) → jC l D G e M_xReader_termBehind [.ref 28, .int a1, .int a2] (jmix c r) (some (.int vE)) (jmix cE r)) (i3 : ∀ (c r : jS) (a1 : Int32) (vE : Int32) (cE : jS), F_pairHere c a1 = some (vE, cE) → jC l D G e M_xReader_pairHere [.ref 28, .int a1] (jmix c r) (some (.int vE)) (jmix cE r)) (i4 : ∀ (c r : jS) (a1 : Int32) (vE : Int32) (cE : jS), F_letHere c a1 = some (vE, cE) → jC l D G e M_xReader_letHere [.ref 28, .int a1] (jmix c r) (some (.int vE)) (jmix cE r)) (i5 : ∀ (c r : jS) (a1 : Int32) (vE : Int32) (cE : jS), F_choiceHere c a1 = some (vE, cE) → jC l D G e M_xReader_choiceHere [.ref 28, .int a1] (jmix c r) (some (.int vE)) (jmix cE r)) (hdp : 134 ≤ d) (hde : e + 1 ≤ d) {c r : jS} {a1 : Int32} {vE : Int32} {cE : jS} (h : b_xReader_letHere F_termHere F_functionHere F_termBehind F_pairHere F_letHere F_choiceHere c a1 = some (vE, cE)) : jC l D G d M_xReader_letHere [.ref 28, .int a1] (jmix c r) (some (.int vE)) (jmix cE r) := by
  refine jM_of rfl (Nat.le_of_ble_eq_true rfl) ?_
  intro X hl hD hG _ _ hX hE _
  subst hl hD hG
  unfold b_xReader_letHere at h
  show J X 0 0 jN (jE (jmix c r)) [(0, .ref 28), (1, .int a1)] [] 0
  refine j_aload_n (pc := 0) hX dX4_letHere_0 rfl rfl ?_
  refine j_bipush (pc := 1) (v := (91 : Int32)) hX dX4_letHere_1 (by decide) ?_
  obtain ⟨r1, c2, h1, h⟩ := bd_some h
  refine k_callVI (pc := 3) (st := []) hX ln_4_101 dX4_letHere_3 (t_xReader_letterBehind (d := 2) (Nat.le_refl _) h1) rfl rfl rfl (by omega) (Nat.le_of_ble_eq_true rfl) ?_
  refine j_istore_n (pc := 6) hX dX4_letHere_6 rfl (by decide) (by decide) ?_
  refine j_iload_n (pc := 7) hX dX4_letHere_7 rfl rfl ?_
  refine j_if_ge (pc := 8) (tgt := 13) hX dX4_letHere_8 (by decide) (fun z => ?_) (fun z => ?_)
  · replace h := ite_t z h
    refine j_aload_n (pc := 13) hX dX4_letHere_13 rfl rfl ?_
    refine j_bipush (pc := 14) (v := (61 : Int32)) hX dX4_letHere_14 (by decide) ?_
    refine j_iload_n (pc := 16) hX dX4_letHere_16 rfl rfl ?_
    refine j_iconst (pc := 17) (v := (1 : Int32)) hX dX4_letHere_17 (by decide) ?_
    refine j_iadd (pc := 18) hX dX4_letHere_18 ?_
    obtain ⟨r3, c4, h1, h⟩ := bd_some h
    refine k_callVI (pc := 19) (st := []) hX ln_4_110 dX4_letHere_19 (i2 _ _ _ _ _ _ h1) rfl rfl rfl hde (Nat.le_of_ble_eq_true rfl) ?_
    refine j_istore_n (pc := 22) hX dX4_letHere_22 rfl (by decide) (by decide) ?_
    refine j_iload_n (pc := 23) hX dX4_letHere_23 rfl rfl ?_
    refine j_if_ge (pc := 24) (tgt := 29) hX dX4_letHere_24 (by decide) (fun z => ?_) (fun z => ?_)
    · replace h := ite_t z h
      refine j_aload_n (pc := 29) hX dX4_letHere_29 rfl rfl ?_
      refine j_bipush (pc := 30) (v := (93 : Int32)) hX dX4_letHere_30 (by decide) ?_
      refine j_iload_n (pc := 32) hX dX4_letHere_32 rfl rfl ?_
      refine j_iconst (pc := 33) (v := (1 : Int32)) hX dX4_letHere_33 (by decide) ?_
      refine j_iadd (pc := 34) hX dX4_letHere_34 ?_
      obtain ⟨r5, c6, h1, h⟩ := bd_some h
      refine k_callVI (pc := 35) (st := []) hX ln_4_110 dX4_letHere_35 (i2 _ _ _ _ _ _ h1) rfl rfl rfl hde (Nat.le_of_ble_eq_true rfl) ?_
      refine j_istore (pc := 38) hX dX4_letHere_38 (by decide) (by decide) ?_
      refine j_iload (pc := 40) hX dX4_letHere_40 rfl ?_
      refine j_if_ge (pc := 42) (tgt := 50) hX dX4_letHere_42 (by decide) (fun z => ?_) (fun z => ?_)
      · replace h := ite_t z h
        refine j_aload_n (pc := 50) hX dX4_letHere_50 rfl rfl ?_
        refine k_getR (pc := 51) (q := 5) hX fl_4_19 dX4_letHere_51 rfl rfl ?_
        refine j_iload_n (pc := 54) hX dX4_letHere_54 rfl rfl ?_
        refine j_iload_n (pc := 55) hX dX4_letHere_55 rfl rfl ?_
        refine j_iload (pc := 56) hX dX4_letHere_56 rfl ?_
        obtain ⟨r7, c8, h1, h⟩ := bd_some h
        refine k_callVI (pc := 58) (st := []) hX ln_4_122 dX4_letHere_58 (t_xTerms_newLet (d := 3) (Nat.le_refl _) h1) rfl rfl rfl (by omega) (Nat.le_of_ble_eq_true rfl) ?_
        obtain ⟨h, h0⟩ := Prod.mk.inj (Option.some.inj h)
        subst h h0
        exact j_iret (pc := 61) hX hE rfl rfl dX4_letHere_61 (Nat.le_refl 0) (Nat.le_refl 0) ⟨rfl, rfl, rfl⟩
      · replace h := ite_f z h
        refine j_iload (pc := 45) hX dX4_letHere_45 rfl ?_
        refine j_goto (pc := 47) (tgt := 61) hX dX4_letHere_47 (by decide) ?_
        obtain ⟨h, h0⟩ := Prod.mk.inj (Option.some.inj h)
        subst h h0
        exact j_iret (pc := 61) hX hE rfl rfl dX4_letHere_61 (Nat.le_refl 0) (Nat.le_refl 0) ⟨rfl, rfl, rfl⟩
    · replace h := ite_f z h
      refine j_iload_n (pc := 27) hX dX4_letHere_27 rfl rfl ?_
      obtain ⟨h, h0⟩ := Prod.mk.inj (Option.some.inj h)
      subst h h0
      exact j_iret (pc := 28) hX hE rfl rfl dX4_letHere_28 (Nat.le_refl 0) (Nat.le_refl 0) ⟨rfl, rfl, rfl⟩
  · replace h := ite_f z h
    refine j_iload_n (pc := 11) hX dX4_letHere_11 rfl rfl ?_
    obtain ⟨h, h0⟩ := Prod.mk.inj (Option.some.inj h)
    subst h h0
    exact j_iret (pc := 12) hX hE rfl rfl dX4_letHere_12 (Nat.le_refl 0) (Nat.le_refl 0) ⟨rfl, rfl, rfl⟩

set_option maxHeartbeats 4000000 in
set_option maxRecDepth 100000 in
theorem tb_xReader_choiceHere {l : Launch} {D : va_G} {G : Nat → ClassId} {d : Nat} {e : Nat} {F_termHere : jS → Int32 → Option (Int32 × jS)} {F_functionHere : jS → Int32 → Option (Int32 × jS)} {F_termBehind : jS → Int32 → Int32 → Option (Int32 × jS)} {F_pairHere : jS → Int32 → Option (Int32 × jS)} {F_letHere : jS → Int32 → Option (Int32 × jS)} {F_choiceHere : jS → Int32 → Option (Int32 × jS)} (i0 : ∀ (c r : jS) (a1 : Int32) (vE : Int32) (cE : jS), F_termHere c a1 = some (vE, cE) → jC l D G e M_xReader_termHere [.ref 28, .int a1] (jmix c r) (some (.int vE)) (jmix cE r)) (i1 : ∀ (c r : jS) (a1 : Int32) (vE : Int32) (cE : jS), F_functionHere c a1 = some (vE, cE) → jC l D G e M_xReader_functionHere [.ref 28, .int a1] (jmix c r) (some (.int vE)) (jmix cE r)) (i2 : ∀ (c r : jS) (a1 : Int32) (a2 : Int32) (vE : Int32) (cE : jS), F_termBehind c a1 a2 = some (vE, cE) → jC l D G e M_xReader_termBehind [.ref 28, .int a1, .int a2] (jmix c r) (some (.int vE)) (jmix cE r)) (i3 : ∀ (c r : jS) (a1 : Int32) (vE : Int32) (cE : jS), F_pairHere c a1 = some (vE, cE) → jC l D G e M_xReader_pairHere [.ref 28, .int a1] (jmix c r) (some (.int vE)) (jmix cE r)) (i4 : ∀ (c r : jS) (a1 : Int32) (vE : Int32) (cE : jS), F_letHere c a1 = some (vE, cE) → jC l D G e M_xReader_letHere [.ref 28, .int a1] (jmix c r) (some (.int vE)) (jmix cE r)) (i5 : ∀ (c r : jS) (a1 : Int32) (vE : Int32) (cE : jS), F_choiceHere c a1 = some (vE, cE) → jC l D G e M_xReader_choiceHere [.ref 28, .int a1] (jmix c r) (some (.int vE)) (jmix cE r)) (hdp : 134 ≤ d) (hde : e + 1 ≤ d) {c r : jS} {a1 : Int32} {vE : Int32} {cE : jS} (h : b_xReader_choiceHere F_termHere F_functionHere F_termBehind F_pairHere F_letHere F_choiceHere c a1 = some (vE, cE)) : jC l D G d M_xReader_choiceHere [.ref 28, .int a1] (jmix c r) (some (.int vE)) (jmix cE r) := by
  refine jM_of rfl (Nat.le_of_ble_eq_true rfl) ?_
  intro X hl hD hG _ _ hX hE _
  subst hl hD hG
  unfold b_xReader_choiceHere at h
  show J X 0 0 jN (jE (jmix c r)) [(0, .ref 28), (1, .int a1)] [] 0
  refine j_aload_n (pc := 0) hX dX4_choiceHere_0 rfl rfl ?_
  refine j_bipush (pc := 1) (v := (123 : Int32)) hX dX4_choiceHere_1 (by decide) ?_
  refine j_iload_n (pc := 3) hX dX4_choiceHere_3 rfl rfl ?_
  refine j_iconst (pc := 4) (v := (1 : Int32)) hX dX4_choiceHere_4 (by decide) ?_
  refine j_iadd (pc := 5) hX dX4_choiceHere_5 ?_
  obtain ⟨r1, c2, h1, h⟩ := bd_some h
  refine k_callVI (pc := 6) (st := []) hX ln_4_110 dX4_choiceHere_6 (i2 _ _ _ _ _ _ h1) rfl rfl rfl hde (Nat.le_of_ble_eq_true rfl) ?_
  refine j_istore_n (pc := 9) hX dX4_choiceHere_9 rfl (by decide) (by decide) ?_
  refine j_iload_n (pc := 10) hX dX4_choiceHere_10 rfl rfl ?_
  refine j_if_ge (pc := 11) (tgt := 16) hX dX4_choiceHere_11 (by decide) (fun z => ?_) (fun z => ?_)
  · replace h := ite_t z h
    refine j_aload_n (pc := 16) hX dX4_choiceHere_16 rfl rfl ?_
    refine j_bipush (pc := 17) (v := (63 : Int32)) hX dX4_choiceHere_17 (by decide) ?_
    refine j_iload_n (pc := 19) hX dX4_choiceHere_19 rfl rfl ?_
    refine j_iconst (pc := 20) (v := (1 : Int32)) hX dX4_choiceHere_20 (by decide) ?_
    refine j_iadd (pc := 21) hX dX4_choiceHere_21 ?_
    obtain ⟨r3, c4, h1, h⟩ := bd_some h
    refine k_callVI (pc := 22) (st := []) hX ln_4_110 dX4_choiceHere_22 (i2 _ _ _ _ _ _ h1) rfl rfl rfl hde (Nat.le_of_ble_eq_true rfl) ?_
    refine j_istore_n (pc := 25) hX dX4_choiceHere_25 rfl (by decide) (by decide) ?_
    refine j_iload_n (pc := 26) hX dX4_choiceHere_26 rfl rfl ?_
    refine j_if_ge (pc := 27) (tgt := 32) hX dX4_choiceHere_27 (by decide) (fun z => ?_) (fun z => ?_)
    · replace h := ite_t z h
      refine j_aload_n (pc := 32) hX dX4_choiceHere_32 rfl rfl ?_
      refine j_bipush (pc := 33) (v := (58 : Int32)) hX dX4_choiceHere_33 (by decide) ?_
      refine j_iload_n (pc := 35) hX dX4_choiceHere_35 rfl rfl ?_
      refine j_iconst (pc := 36) (v := (1 : Int32)) hX dX4_choiceHere_36 (by decide) ?_
      refine j_iadd (pc := 37) hX dX4_choiceHere_37 ?_
      obtain ⟨r5, c6, h1, h⟩ := bd_some h
      refine k_callVI (pc := 38) (st := []) hX ln_4_110 dX4_choiceHere_38 (i2 _ _ _ _ _ _ h1) rfl rfl rfl hde (Nat.le_of_ble_eq_true rfl) ?_
      refine j_istore (pc := 41) hX dX4_choiceHere_41 (by decide) (by decide) ?_
      refine j_iload (pc := 43) hX dX4_choiceHere_43 rfl ?_
      refine j_if_ge (pc := 45) (tgt := 51) hX dX4_choiceHere_45 (by decide) (fun z => ?_) (fun z => ?_)
      · replace h := ite_t z h
        refine j_aload_n (pc := 51) hX dX4_choiceHere_51 rfl rfl ?_
        refine j_bipush (pc := 52) (v := (125 : Int32)) hX dX4_choiceHere_52 (by decide) ?_
        obtain ⟨r7, c8, h1, h⟩ := bd_some h
        refine k_callVI (pc := 54) (st := []) hX ln_4_104 dX4_choiceHere_54 (t_xReader_pass (d := 1) (Nat.le_refl _) h1) rfl rfl rfl (by omega) (Nat.le_of_ble_eq_true rfl) ?_
        refine j_istore (pc := 57) hX dX4_choiceHere_57 (by decide) (by decide) ?_
        refine j_iload (pc := 59) hX dX4_choiceHere_59 rfl ?_
        refine j_if_ge (pc := 61) (tgt := 69) hX dX4_choiceHere_61 (by decide) (fun z => ?_) (fun z => ?_)
        · replace h := ite_t z h
          refine j_aload_n (pc := 69) hX dX4_choiceHere_69 rfl rfl ?_
          refine k_getR (pc := 70) (q := 5) hX fl_4_19 dX4_choiceHere_70 rfl rfl ?_
          refine j_bipush (pc := 73) (v := (6 : Int32)) hX dX4_choiceHere_73 (by decide) ?_
          refine j_iload_n (pc := 75) hX dX4_choiceHere_75 rfl rfl ?_
          refine j_iload_n (pc := 76) hX dX4_choiceHere_76 rfl rfl ?_
          refine j_iload (pc := 77) hX dX4_choiceHere_77 rfl ?_
          obtain ⟨r9, c10, h1, h⟩ := bd_some h
          refine k_callVI (pc := 79) (st := []) hX ln_4_118 dX4_choiceHere_79 (t_xTerms_newJoined (d := 3) (Nat.le_refl _) h1) rfl rfl rfl (by omega) (Nat.le_of_ble_eq_true rfl) ?_
          obtain ⟨h, h0⟩ := Prod.mk.inj (Option.some.inj h)
          subst h h0
          exact j_iret (pc := 82) hX hE rfl rfl dX4_choiceHere_82 (Nat.le_refl 0) (Nat.le_refl 0) ⟨rfl, rfl, rfl⟩
        · replace h := ite_f z h
          refine j_iload (pc := 64) hX dX4_choiceHere_64 rfl ?_
          refine j_goto (pc := 66) (tgt := 82) hX dX4_choiceHere_66 (by decide) ?_
          obtain ⟨h, h0⟩ := Prod.mk.inj (Option.some.inj h)
          subst h h0
          exact j_iret (pc := 82) hX hE rfl rfl dX4_choiceHere_82 (Nat.le_refl 0) (Nat.le_refl 0) ⟨rfl, rfl, rfl⟩
      · replace h := ite_f z h
        refine j_iload (pc := 48) hX dX4_choiceHere_48 rfl ?_
        obtain ⟨h, h0⟩ := Prod.mk.inj (Option.some.inj h)
        subst h h0
        exact j_iret (pc := 50) hX hE rfl rfl dX4_choiceHere_50 (Nat.le_refl 0) (Nat.le_refl 0) ⟨rfl, rfl, rfl⟩
    · replace h := ite_f z h
      refine j_iload_n (pc := 30) hX dX4_choiceHere_30 rfl rfl ?_
      obtain ⟨h, h0⟩ := Prod.mk.inj (Option.some.inj h)
      subst h h0
      exact j_iret (pc := 31) hX hE rfl rfl dX4_choiceHere_31 (Nat.le_refl 0) (Nat.le_refl 0) ⟨rfl, rfl, rfl⟩
  · replace h := ite_f z h
    refine j_iload_n (pc := 14) hX dX4_choiceHere_14 rfl rfl ?_
    obtain ⟨h, h0⟩ := Prod.mk.inj (Option.some.inj h)
    subst h h0
    exact j_iret (pc := 15) hX hE rfl rfl dX4_choiceHere_15 (Nat.le_refl 0) (Nat.le_refl 0) ⟨rfl, rfl, rfl⟩

set_option maxHeartbeats 4000000 in
set_option maxRecDepth 100000 in
theorem tg_xReader_termHere {l : Launch} {D : va_G} {G : Nat → ClassId} : ∀ f : Nat, (∀ (c r : jS) (a1 : Int32) (vE : Int32) (cE : jS), xReader_termHere f c a1 = some (vE, cE) → jC l D G (f + 134) M_xReader_termHere [.ref 28, .int a1] (jmix c r) (some (.int vE)) (jmix cE r)) ∧
    (∀ (c r : jS) (a1 : Int32) (vE : Int32) (cE : jS), xReader_functionHere f c a1 = some (vE, cE) → jC l D G (f + 134) M_xReader_functionHere [.ref 28, .int a1] (jmix c r) (some (.int vE)) (jmix cE r)) ∧
    (∀ (c r : jS) (a1 : Int32) (a2 : Int32) (vE : Int32) (cE : jS), xReader_termBehind f c a1 a2 = some (vE, cE) → jC l D G (f + 134) M_xReader_termBehind [.ref 28, .int a1, .int a2] (jmix c r) (some (.int vE)) (jmix cE r)) ∧
    (∀ (c r : jS) (a1 : Int32) (vE : Int32) (cE : jS), xReader_pairHere f c a1 = some (vE, cE) → jC l D G (f + 134) M_xReader_pairHere [.ref 28, .int a1] (jmix c r) (some (.int vE)) (jmix cE r)) ∧
    (∀ (c r : jS) (a1 : Int32) (vE : Int32) (cE : jS), xReader_letHere f c a1 = some (vE, cE) → jC l D G (f + 134) M_xReader_letHere [.ref 28, .int a1] (jmix c r) (some (.int vE)) (jmix cE r)) ∧
    (∀ (c r : jS) (a1 : Int32) (vE : Int32) (cE : jS), xReader_choiceHere f c a1 = some (vE, cE) → jC l D G (f + 134) M_xReader_choiceHere [.ref 28, .int a1] (jmix c r) (some (.int vE)) (jmix cE r)) := by
  intro f
  induction f with
  | zero =>
    exact ⟨fun _ _ _ _ _ h => (by cases h), fun _ _ _ _ _ h => (by cases h), fun _ _ _ _ _ _ h => (by cases h), fun _ _ _ _ _ h => (by cases h), fun _ _ _ _ _ h => (by cases h), fun _ _ _ _ _ h => (by cases h)⟩
  | succ f ih =>
    obtain ⟨i0, i1, i2, i3, i4, i5⟩ := ih
    exact ⟨fun _ _ _ _ _ h => tb_xReader_termHere (e := f + 134) i0 i1 i2 i3 i4 i5 (by omega) (by omega) h,
      fun _ _ _ _ _ h => tb_xReader_functionHere (e := f + 134) i0 i1 i2 i3 i4 i5 (by omega) (by omega) h,
      fun _ _ _ _ _ _ h => tb_xReader_termBehind (e := f + 134) i0 i1 i2 i3 i4 i5 (by omega) (by omega) h,
      fun _ _ _ _ _ h => tb_xReader_pairHere (e := f + 134) i0 i1 i2 i3 i4 i5 (by omega) (by omega) h,
      fun _ _ _ _ _ h => tb_xReader_letHere (e := f + 134) i0 i1 i2 i3 i4 i5 (by omega) (by omega) h,
      fun _ _ _ _ _ h => tb_xReader_choiceHere (e := f + 134) i0 i1 i2 i3 i4 i5 (by omega) (by omega) h⟩

theorem t_xReader_termHere {l : Launch} {D : va_G} {G : Nat → ClassId} {c r : jS} {a1 : Int32} {vE : Int32} {cE : jS} (h : xReader_termHere 130 c a1 = some (vE, cE)) : jC l D G 264 M_xReader_termHere [.ref 28, .int a1] (jmix c r) (some (.int vE)) (jmix cE r) := (tg_xReader_termHere 130).1 _ _ _ _ _ h

theorem t_xReader_functionHere {l : Launch} {D : va_G} {G : Nat → ClassId} {c r : jS} {a1 : Int32} {vE : Int32} {cE : jS} (h : xReader_functionHere 130 c a1 = some (vE, cE)) : jC l D G 264 M_xReader_functionHere [.ref 28, .int a1] (jmix c r) (some (.int vE)) (jmix cE r) := (tg_xReader_termHere 130).2.1 _ _ _ _ _ h

theorem t_xReader_termBehind {l : Launch} {D : va_G} {G : Nat → ClassId} {c r : jS} {a1 : Int32} {a2 : Int32} {vE : Int32} {cE : jS} (h : xReader_termBehind 130 c a1 a2 = some (vE, cE)) : jC l D G 264 M_xReader_termBehind [.ref 28, .int a1, .int a2] (jmix c r) (some (.int vE)) (jmix cE r) := (tg_xReader_termHere 130).2.2.1 _ _ _ _ _ _ h

theorem t_xReader_pairHere {l : Launch} {D : va_G} {G : Nat → ClassId} {c r : jS} {a1 : Int32} {vE : Int32} {cE : jS} (h : xReader_pairHere 130 c a1 = some (vE, cE)) : jC l D G 264 M_xReader_pairHere [.ref 28, .int a1] (jmix c r) (some (.int vE)) (jmix cE r) := (tg_xReader_termHere 130).2.2.2.1 _ _ _ _ _ h

theorem t_xReader_letHere {l : Launch} {D : va_G} {G : Nat → ClassId} {c r : jS} {a1 : Int32} {vE : Int32} {cE : jS} (h : xReader_letHere 130 c a1 = some (vE, cE)) : jC l D G 264 M_xReader_letHere [.ref 28, .int a1] (jmix c r) (some (.int vE)) (jmix cE r) := (tg_xReader_termHere 130).2.2.2.2.1 _ _ _ _ _ h

theorem t_xReader_choiceHere {l : Launch} {D : va_G} {G : Nat → ClassId} {c r : jS} {a1 : Int32} {vE : Int32} {cE : jS} (h : xReader_choiceHere 130 c a1 = some (vE, cE)) : jC l D G 264 M_xReader_choiceHere [.ref 28, .int a1] (jmix c r) (some (.int vE)) (jmix cE r) := (tg_xReader_termHere 130).2.2.2.2.2 _ _ _ _ _ h

set_option maxHeartbeats 4000000 in
set_option maxRecDepth 100000 in
theorem t_xTerms_cutTo {l : Launch} {D : va_G} {G : Nat → ClassId} {d : Nat} (hdp : 0 ≤ d) {c r : jS} {a1 : Int32} {cE : jS} (h : xTerms_cutTo c a1 = some ((), cE)) : jC l D G d M_xTerms_cutTo [.ref 5, .int a1] (jmix c r) none (jmix cE r) := by
  refine jM_of rfl (Nat.le_of_ble_eq_true rfl) ?_
  intro X hl hD hG _ _ hX hE _
  subst hl hD hG
  unfold xTerms_cutTo at h
  show J X 0 0 jN (jE (jmix c r)) [(0, .ref 5), (1, .int a1)] [] 0
  refine j_iload_n (pc := 0) hX dX6_cutTo_0 rfl rfl ?_
  refine j_if_lt (pc := 1) (tgt := 17) hX dX6_cutTo_1 (by decide) (fun z => ?_) (fun z => ?_)
  · replace h := ite_t z h
    obtain ⟨_, h⟩ := Prod.mk.inj (Option.some.inj h)
    subst h
    exact j_vret (pc := 17) hX hE dX6_cutTo_17 (Nat.le_refl 0) (Nat.le_refl 0) ⟨rfl, rfl, rfl⟩
  · replace h := ite_f z h
    refine j_iload_n (pc := 4) hX dX6_cutTo_4 rfl rfl ?_
    refine j_aload_n (pc := 5) hX dX6_cutTo_5 rfl rfl ?_
    refine k_getI (pc := 6) (x := (c 5 12)) hX fl_6_49 dX6_cutTo_6 rfl rfl rfl ?_
    refine j_icmp_ge (pc := 9) (tgt := 17) hX dX6_cutTo_9 (by decide) (fun z => ?_) (fun z => ?_)
    · replace h := ite_t z h
      obtain ⟨_, h⟩ := Prod.mk.inj (Option.some.inj h)
      subst h
      exact j_vret (pc := 17) hX hE dX6_cutTo_17 (Nat.le_refl 0) (Nat.le_refl 0) ⟨rfl, rfl, rfl⟩
    · replace h := ite_f z h
      refine j_aload_n (pc := 12) hX dX6_cutTo_12 rfl rfl ?_
      refine j_iload_n (pc := 13) hX dX6_cutTo_13 rfl rfl ?_
      obtain ⟨c1, hc, h⟩ := lt_some h
      refine k_putI (pc := 14) (c' := jmix c1 r) hX pfl_6_49 dX6_cutTo_14 rfl rfl (fun _ => ⟨rfl, rfl⟩) (jmix_xe rfl hc) ?_
      obtain ⟨_, h⟩ := Prod.mk.inj (Option.some.inj h)
      subst h
      exact j_vret (pc := 17) hX hE dX6_cutTo_17 (Nat.le_refl 0) (Nat.le_refl 0) ⟨rfl, rfl, rfl⟩

set_option maxHeartbeats 4000000 in
set_option maxRecDepth 100000 in
theorem t_xTypes_cutTo {l : Launch} {D : va_G} {G : Nat → ClassId} {d : Nat} (hdp : 0 ≤ d) {c r : jS} {a1 : Int32} {cE : jS} (h : xTypes_cutTo c a1 = some ((), cE)) : jC l D G d M_xTypes_cutTo [.ref 1, .int a1] (jmix c r) none (jmix cE r) := by
  refine jM_of rfl (Nat.le_of_ble_eq_true rfl) ?_
  intro X hl hD hG _ _ hX hE _
  subst hl hD hG
  unfold xTypes_cutTo at h
  show J X 0 0 jN (jE (jmix c r)) [(0, .ref 1), (1, .int a1)] [] 0
  refine j_iload_n (pc := 0) hX dX7_cutTo_0 rfl rfl ?_
  refine j_iconst (pc := 1) (v := (1 : Int32)) hX dX7_cutTo_1 (by decide) ?_
  refine j_icmp_lt (pc := 2) (tgt := 18) hX dX7_cutTo_2 (by decide) (fun z => ?_) (fun z => ?_)
  · replace h := ite_t z h
    obtain ⟨_, h⟩ := Prod.mk.inj (Option.some.inj h)
    subst h
    exact j_vret (pc := 18) hX hE dX7_cutTo_18 (Nat.le_refl 0) (Nat.le_refl 0) ⟨rfl, rfl, rfl⟩
  · replace h := ite_f z h
    refine j_iload_n (pc := 5) hX dX7_cutTo_5 rfl rfl ?_
    refine j_aload_n (pc := 6) hX dX7_cutTo_6 rfl rfl ?_
    refine k_getI (pc := 7) (x := (c 1 3)) hX fl_7_21 dX7_cutTo_7 rfl rfl rfl ?_
    refine j_icmp_ge (pc := 10) (tgt := 18) hX dX7_cutTo_10 (by decide) (fun z => ?_) (fun z => ?_)
    · replace h := ite_t z h
      obtain ⟨_, h⟩ := Prod.mk.inj (Option.some.inj h)
      subst h
      exact j_vret (pc := 18) hX hE dX7_cutTo_18 (Nat.le_refl 0) (Nat.le_refl 0) ⟨rfl, rfl, rfl⟩
    · replace h := ite_f z h
      refine j_aload_n (pc := 13) hX dX7_cutTo_13 rfl rfl ?_
      refine j_iload_n (pc := 14) hX dX7_cutTo_14 rfl rfl ?_
      obtain ⟨c1, hc, h⟩ := lt_some h
      refine k_putI (pc := 15) (c' := jmix c1 r) hX pfl_7_21 dX7_cutTo_15 rfl rfl (fun _ => ⟨rfl, rfl⟩) (jmix_xe rfl hc) ?_
      obtain ⟨_, h⟩ := Prod.mk.inj (Option.some.inj h)
      subst h
      exact j_vret (pc := 18) hX hE dX7_cutTo_18 (Nat.le_refl 0) (Nat.le_refl 0) ⟨rfl, rfl, rfl⟩

set_option maxHeartbeats 4000000 in
set_option maxRecDepth 100000 in
theorem tj_xReader_wholeTape_P47 {X : jX} {d : Nat} {r : jS} {vE : Int32} {cE : jS} (hX : jOk X RX4 cX4_wholeTape 4 d) (hdp : 265 ≤ d) (hE : jEnd X (some .int) 0 0 (fun r0 n0 h0 => r0 = (some (.int vE)) ∧ n0 = jN ∧ h0 = jE (jmix cE r))) : ∀ (v1 : Int32) (v2 : Int32) (v3 : Int32) (c : jS), xReader_wholeTape_P47 v1 v2 v3 c = some (vE, cE) → J X 0 0 jN (jE (jmix c r)) [(0, .ref 28), (1, .int v1), (2, .int v2), (3, .int v3)] [] 47 := by
  intro v1 v2 v3 c h
  unfold xReader_wholeTape_P47 at h
  refine j_iload_n (pc := 47) hX dX4_wholeTape_47 rfl rfl ?_
  refine j_if_ge (pc := 48) (tgt := 67) hX dX4_wholeTape_48 (by decide) (fun z => ?_) (fun z => ?_)
  · replace h := ite_t z h
    refine j_aload_n (pc := 67) hX dX4_wholeTape_67 rfl rfl ?_
    refine j_iconst (pc := 68) (v := (0 : Int32)) hX dX4_wholeTape_68 (by decide) ?_
    obtain ⟨c6, hc, h⟩ := lt_some h
    refine k_putI (pc := 69) (c' := jmix c6 r) hX pfl_4_23 dX4_wholeTape_69 rfl rfl (fun _ => ⟨rfl, rfl⟩) (jmix_xe rfl hc) ?_
    refine j_iload_n (pc := 72) hX dX4_wholeTape_72 rfl rfl ?_
    obtain ⟨h, h0⟩ := Prod.mk.inj (Option.some.inj h)
    subst h h0
    exact j_iret (pc := 73) hX hE rfl rfl dX4_wholeTape_73 (Nat.le_refl 0) (Nat.le_refl 0) ⟨rfl, rfl, rfl⟩
  · replace h := ite_f z h
    refine j_aload_n (pc := 51) hX dX4_wholeTape_51 rfl rfl ?_
    refine k_getR (pc := 52) (q := 5) hX fl_4_19 dX4_wholeTape_52 rfl rfl ?_
    refine j_iload_n (pc := 55) hX dX4_wholeTape_55 rfl rfl ?_
    obtain ⟨_u, c7, h1, h⟩ := bd_some h
    refine k_callVV (pc := 56) (st := []) hX ln_4_58 dX4_wholeTape_56 (t_xTerms_cutTo (d := 0) (Nat.le_refl _) h1) rfl rfl rfl (by omega) (Nat.le_of_ble_eq_true rfl) ?_
    refine j_aload_n (pc := 59) hX dX4_wholeTape_59 rfl rfl ?_
    refine k_getR (pc := 60) (q := 1) hX fl_4_15 dX4_wholeTape_60 rfl rfl ?_
    refine j_iload_n (pc := 63) hX dX4_wholeTape_63 rfl rfl ?_
    obtain ⟨_u, c8, h1, h⟩ := bd_some h
    refine k_callVV (pc := 64) (st := []) hX ln_4_61 dX4_wholeTape_64 (t_xTypes_cutTo (d := 0) (Nat.le_refl _) h1) rfl rfl rfl (by omega) (Nat.le_of_ble_eq_true rfl) ?_
    refine j_aload_n (pc := 67) hX dX4_wholeTape_67 rfl rfl ?_
    refine j_iconst (pc := 68) (v := (0 : Int32)) hX dX4_wholeTape_68 (by decide) ?_
    obtain ⟨c9, hc, h⟩ := lt_some h
    refine k_putI (pc := 69) (c' := jmix c9 r) hX pfl_4_23 dX4_wholeTape_69 rfl rfl (fun _ => ⟨rfl, rfl⟩) (jmix_xe rfl hc) ?_
    refine j_iload_n (pc := 72) hX dX4_wholeTape_72 rfl rfl ?_
    obtain ⟨h, h0⟩ := Prod.mk.inj (Option.some.inj h)
    subst h h0
    exact j_iret (pc := 73) hX hE rfl rfl dX4_wholeTape_73 (Nat.le_refl 0) (Nat.le_refl 0) ⟨rfl, rfl, rfl⟩
set_option maxHeartbeats 4000000 in
set_option maxRecDepth 100000 in
theorem t_xReader_wholeTape {l : Launch} {D : va_G} {G : Nat → ClassId} {d : Nat} (hdp : 265 ≤ d) {c r : jS} {vE : Int32} {cE : jS} (h : xReader_wholeTape c = some (vE, cE)) : jC l D G d M_xReader_wholeTape [.ref 28] (jmix c r) (some (.int vE)) (jmix cE r) := by
  refine jM_of rfl (Nat.le_of_ble_eq_true rfl) ?_
  intro X hl hD hG _ _ hX hE _
  subst hl hD hG
  unfold xReader_wholeTape at h
  show J X 0 0 jN (jE (jmix c r)) [(0, .ref 28)] [] 0
  refine j_aload_n (pc := 0) hX dX4_wholeTape_0 rfl rfl ?_
  refine k_getR (pc := 1) (q := 5) hX fl_4_19 dX4_wholeTape_1 rfl rfl ?_
  obtain ⟨r1, h1, h⟩ := ob_some h
  refine k_callVI (pc := 4) (st := []) hX ln_4_44 dX4_wholeTape_4 (t_xTerms_total (d := 0) (Nat.le_refl _) h1) rfl rfl rfl (by omega) (Nat.le_of_ble_eq_true rfl) ?_
  refine j_istore_n (pc := 7) hX dX4_wholeTape_7 rfl (by decide) (by decide) ?_
  refine j_aload_n (pc := 8) hX dX4_wholeTape_8 rfl rfl ?_
  refine k_getR (pc := 9) (q := 1) hX fl_4_15 dX4_wholeTape_9 rfl rfl ?_
  obtain ⟨r2, h1, h⟩ := ob_some h
  refine k_callVI (pc := 12) (st := []) hX ln_4_49 dX4_wholeTape_12 (t_xTypes_total (d := 0) (Nat.le_refl _) h1) rfl rfl rfl (by omega) (Nat.le_of_ble_eq_true rfl) ?_
  refine j_istore_n (pc := 15) hX dX4_wholeTape_15 rfl (by decide) (by decide) ?_
  refine j_aload_n (pc := 16) hX dX4_wholeTape_16 rfl rfl ?_
  refine j_iconst (pc := 17) (v := (0 : Int32)) hX dX4_wholeTape_17 (by decide) ?_
  obtain ⟨c3, hc, h⟩ := lt_some h
  refine k_putI (pc := 18) (c' := jmix c3 r) hX pfl_4_27 dX4_wholeTape_18 rfl rfl (fun _ => ⟨rfl, rfl⟩) (jmix_xe rfl hc) ?_
  refine j_aload_n (pc := 21) hX dX4_wholeTape_21 rfl rfl ?_
  refine j_iconst (pc := 22) (v := (1 : Int32)) hX dX4_wholeTape_22 (by decide) ?_
  obtain ⟨r4, c5, h1, h⟩ := bd_some h
  refine k_callVI (pc := 23) (st := []) hX ln_4_52 dX4_wholeTape_23 (t_xReader_termHere h1) rfl rfl rfl (by omega) (Nat.le_of_ble_eq_true rfl) ?_
  refine j_istore_n (pc := 26) hX dX4_wholeTape_26 rfl (by decide) (by decide) ?_
  refine j_iload_n (pc := 27) hX dX4_wholeTape_27 rfl rfl ?_
  refine j_if_lt (pc := 28) (tgt := 47) hX dX4_wholeTape_28 (by decide) (fun z => ?_) (fun z => ?_)
  · replace h := ite_t z h
    refine j_sub (lv' := [(0, .ref 28), (1, .int r1), (2, .int r2), (3, .int r4)]) ⟨rfl, rfl, rfl, rfl, trivial⟩ ?_
    exact tj_xReader_wholeTape_P47 hX hdp hE _ _ _ _ h
  · replace h := ite_f z h
    refine j_aload_n (pc := 31) hX dX4_wholeTape_31 rfl rfl ?_
    refine k_getI (pc := 32) (x := (c5 28 4)) hX fl_4_27 dX4_wholeTape_32 rfl rfl rfl ?_
    refine j_aload_n (pc := 35) hX dX4_wholeTape_35 rfl rfl ?_
    refine k_getI (pc := 36) (x := (c5 28 3)) hX fl_4_23 dX4_wholeTape_36 rfl rfl rfl ?_
    refine j_icmp_ge (pc := 39) (tgt := 47) hX dX4_wholeTape_39 (by decide) (fun z => ?_) (fun z => ?_)
    · replace h := ite_t z h
      refine j_sub (lv' := [(0, .ref 28), (1, .int r1), (2, .int r2), (3, .int r4)]) ⟨rfl, rfl, rfl, rfl, trivial⟩ ?_
      exact tj_xReader_wholeTape_P47 hX hdp hE _ _ _ _ h
    · replace h := ite_f z h
      refine j_aload_n (pc := 42) hX dX4_wholeTape_42 rfl rfl ?_
      obtain ⟨r10, h1, h⟩ := ob_some h
      refine k_callVI (pc := 43) (st := []) hX ln_4_55 dX4_wholeTape_43 (t_xReader_wrongHere (d := 0) (Nat.le_refl _) h1) rfl rfl rfl (by omega) (Nat.le_of_ble_eq_true rfl) ?_
      refine j_istore_n (pc := 46) hX dX4_wholeTape_46 rfl (by decide) (by decide) ?_
      refine j_sub (lv' := [(0, .ref 28), (1, .int r1), (2, .int r2), (3, .int r10)]) ⟨rfl, rfl, rfl, rfl, trivial⟩ ?_
      exact tj_xReader_wholeTape_P47 hX hdp hE _ _ _ _ h

set_option maxHeartbeats 4000000 in
set_option maxRecDepth 100000 in
theorem tb_xStepper_stepOf {l : Launch} {D : va_G} {G : Nat → ClassId} {d : Nat} {e : Nat} {F_stepOf : jS → Int32 → Option (Int32 × jS)} {F_stepOfCall : jS → Int32 → Option (Int32 × jS)} {F_stepOfFirst : jS → Int32 → Option (Int32 × jS)} {F_stepOfSum : jS → Int32 → Option (Int32 × jS)} {F_stepOfChoice : jS → Int32 → Option (Int32 × jS)} (i0 : ∀ (c r : jS) (a1 : Int32) (vE : Int32) (cE : jS), F_stepOf c a1 = some (vE, cE) → jC l D G e M_xStepper_stepOf [.ref 24, .int a1] (jmix c r) (some (.int vE)) (jmix cE r)) (i1 : ∀ (c r : jS) (a1 : Int32) (vE : Int32) (cE : jS), F_stepOfCall c a1 = some (vE, cE) → jC l D G e M_xStepper_stepOfCall [.ref 24, .int a1] (jmix c r) (some (.int vE)) (jmix cE r)) (i2 : ∀ (c r : jS) (a1 : Int32) (vE : Int32) (cE : jS), F_stepOfFirst c a1 = some (vE, cE) → jC l D G e M_xStepper_stepOfFirst [.ref 24, .int a1] (jmix c r) (some (.int vE)) (jmix cE r)) (i3 : ∀ (c r : jS) (a1 : Int32) (vE : Int32) (cE : jS), F_stepOfSum c a1 = some (vE, cE) → jC l D G e M_xStepper_stepOfSum [.ref 24, .int a1] (jmix c r) (some (.int vE)) (jmix cE r)) (i4 : ∀ (c r : jS) (a1 : Int32) (vE : Int32) (cE : jS), F_stepOfChoice c a1 = some (vE, cE) → jC l D G e M_xStepper_stepOfChoice [.ref 24, .int a1] (jmix c r) (some (.int vE)) (jmix cE r)) (hdp : 135 ≤ d) (hde : e + 1 ≤ d) {c r : jS} {a1 : Int32} {vE : Int32} {cE : jS} (h : b_xStepper_stepOf F_stepOf F_stepOfCall F_stepOfFirst F_stepOfSum F_stepOfChoice c a1 = some (vE, cE)) : jC l D G d M_xStepper_stepOf [.ref 24, .int a1] (jmix c r) (some (.int vE)) (jmix cE r) := by
  refine jM_of rfl (Nat.le_of_ble_eq_true rfl) ?_
  intro X hl hD hG _ _ hX hE _
  subst hl hD hG
  unfold b_xStepper_stepOf at h
  show J X 0 0 jN (jE (jmix c r)) [(0, .ref 24), (1, .int a1)] [] 0
  refine j_aload_n (pc := 0) hX dX5_stepOf_0 rfl rfl ?_
  refine k_getR (pc := 1) (q := 5) hX fl_5_9 dX5_stepOf_1 rfl rfl ?_
  refine j_iload_n (pc := 4) hX dX5_stepOf_4 rfl rfl ?_
  obtain ⟨r1, h1, h⟩ := ob_some h
  refine k_callVI (pc := 5) (st := []) hX ln_5_19 dX5_stepOf_5 (t_xTerms_kindOf (d := 1) (Nat.le_refl _) h1) rfl rfl rfl (by omega) (Nat.le_of_ble_eq_true rfl) ?_
  by_cases z3 : r1 = 3
  · replace h := ite_t z3 h
    refine j_tabEq (pc := 8) (tgt := 40) 3 hX dX5_stepOf_8 z3 (by decide) (by decide) rfl (by decide) ?_
    refine j_aload_n (pc := 40) hX dX5_stepOf_40 rfl rfl ?_
    refine j_iload_n (pc := 41) hX dX5_stepOf_41 rfl rfl ?_
    obtain ⟨r2, c3, h1, h⟩ := bd_some h
    refine k_callVI (pc := 42) (st := []) hX ln_5_25 dX5_stepOf_42 (i1 _ _ _ _ _ h1) rfl rfl rfl hde (Nat.le_of_ble_eq_true rfl) ?_
    obtain ⟨h, h0⟩ := Prod.mk.inj (Option.some.inj h)
    subst h h0
    exact j_iret (pc := 45) hX hE rfl rfl dX5_stepOf_45 (Nat.le_refl 0) (Nat.le_refl 0) ⟨rfl, rfl, rfl⟩
  replace h := ite_f z3 h
  by_cases z4 : r1 = 4
  · replace h := ite_t z4 h
    refine j_tabEq (pc := 8) (tgt := 46) 4 hX dX5_stepOf_8 z4 (by decide) (by decide) rfl (by decide) ?_
    refine j_aload_n (pc := 46) hX dX5_stepOf_46 rfl rfl ?_
    refine k_getR (pc := 47) (q := 23) hX fl_5_15 dX5_stepOf_47 rfl rfl ?_
    refine j_aload_n (pc := 50) hX dX5_stepOf_50 rfl rfl ?_
    refine k_getR (pc := 51) (q := 5) hX fl_5_9 dX5_stepOf_51 rfl rfl ?_
    refine j_iload_n (pc := 54) hX dX5_stepOf_54 rfl rfl ?_
    obtain ⟨r4, h1, h⟩ := ob_some h
    refine k_callVI (pc := 55) (st := [.ref 23]) hX ln_5_28 dX5_stepOf_55 (t_xTerms_secondOf (d := 1) (Nat.le_refl _) h1) rfl rfl rfl (by omega) (Nat.le_of_ble_eq_true rfl) ?_
    refine j_aload_n (pc := 58) hX dX5_stepOf_58 rfl rfl ?_
    refine k_getR (pc := 59) (q := 5) hX fl_5_9 dX5_stepOf_59 rfl rfl ?_
    refine j_iload_n (pc := 62) hX dX5_stepOf_62 rfl rfl ?_
    obtain ⟨r5, h1, h⟩ := ob_some h
    refine k_callVI (pc := 63) (st := [.int r4, .ref 23]) hX ln_5_31 dX5_stepOf_63 (t_xTerms_letterOf (d := 1) (Nat.le_refl _) h1) rfl rfl rfl (by omega) (Nat.le_of_ble_eq_true rfl) ?_
    refine j_aload_n (pc := 66) hX dX5_stepOf_66 rfl rfl ?_
    refine k_getR (pc := 67) (q := 5) hX fl_5_9 dX5_stepOf_67 rfl rfl ?_
    refine j_iload_n (pc := 70) hX dX5_stepOf_70 rfl rfl ?_
    obtain ⟨r6, h1, h⟩ := ob_some h
    refine k_callVI (pc := 71) (st := [.int r5, .int r4, .ref 23]) hX ln_5_34 dX5_stepOf_71 (t_xTerms_firstOf (d := 1) (Nat.le_refl _) h1) rfl rfl rfl (by omega) (Nat.le_of_ble_eq_true rfl) ?_
    obtain ⟨r7, c8, h1, h⟩ := bd_some h
    refine k_callVI (pc := 74) (st := []) hX ln_5_37 dX5_stepOf_74 (t_xPutter_into h1) rfl rfl rfl (by omega) (Nat.le_of_ble_eq_true rfl) ?_
    obtain ⟨h, h0⟩ := Prod.mk.inj (Option.some.inj h)
    subst h h0
    exact j_iret (pc := 77) hX hE rfl rfl dX5_stepOf_77 (Nat.le_refl 0) (Nat.le_refl 0) ⟨rfl, rfl, rfl⟩
  replace h := ite_f z4 h
  by_cases z5 : r1 = 5
  · replace h := ite_t z5 h
    refine j_tabEq (pc := 8) (tgt := 78) 5 hX dX5_stepOf_8 z5 (by decide) (by decide) rfl (by decide) ?_
    refine j_aload_n (pc := 78) hX dX5_stepOf_78 rfl rfl ?_
    refine j_iload_n (pc := 79) hX dX5_stepOf_79 rfl rfl ?_
    obtain ⟨r9, c10, h1, h⟩ := bd_some h
    refine k_callVI (pc := 80) (st := []) hX ln_5_43 dX5_stepOf_80 (i3 _ _ _ _ _ h1) rfl rfl rfl hde (Nat.le_of_ble_eq_true rfl) ?_
    obtain ⟨h, h0⟩ := Prod.mk.inj (Option.some.inj h)
    subst h h0
    exact j_iret (pc := 83) hX hE rfl rfl dX5_stepOf_83 (Nat.le_refl 0) (Nat.le_refl 0) ⟨rfl, rfl, rfl⟩
  replace h := ite_f z5 h
  by_cases z6 : r1 = 6
  · replace h := ite_t z6 h
    refine j_tabEq (pc := 8) (tgt := 84) 6 hX dX5_stepOf_8 z6 (by decide) (by decide) rfl (by decide) ?_
    refine j_aload_n (pc := 84) hX dX5_stepOf_84 rfl rfl ?_
    refine j_iload_n (pc := 85) hX dX5_stepOf_85 rfl rfl ?_
    obtain ⟨r11, c12, h1, h⟩ := bd_some h
    refine k_callVI (pc := 86) (st := []) hX ln_5_46 dX5_stepOf_86 (i4 _ _ _ _ _ h1) rfl rfl rfl hde (Nat.le_of_ble_eq_true rfl) ?_
    obtain ⟨h, h0⟩ := Prod.mk.inj (Option.some.inj h)
    subst h h0
    exact j_iret (pc := 89) hX hE rfl rfl dX5_stepOf_89 (Nat.le_refl 0) (Nat.le_refl 0) ⟨rfl, rfl, rfl⟩
  replace h := ite_f z6 h
  refine j_tabOut (pc := 8) (tgt := 90) hX dX5_stepOf_8 (by have yz3 := lv_neT (a := 3) z3 (by decide); have yz4 := lv_neT (a := 4) z4 (by decide); have yz5 := lv_neT (a := 5) z5 (by decide); have yz6 := lv_neT (a := 6) z6 (by decide); omega) (by decide) ?_
  refine j_bipush (pc := 90) (v := (-2 : Int32)) hX dX5_stepOf_90 (by decide) ?_
  obtain ⟨h, h0⟩ := Prod.mk.inj (Option.some.inj h)
  subst h h0
  exact j_iret (pc := 92) hX hE rfl rfl dX5_stepOf_92 (Nat.le_refl 0) (Nat.le_refl 0) ⟨rfl, rfl, rfl⟩

set_option maxHeartbeats 4000000 in
set_option maxRecDepth 100000 in
theorem tb_xStepper_stepOfCall {l : Launch} {D : va_G} {G : Nat → ClassId} {d : Nat} {e : Nat} {F_stepOf : jS → Int32 → Option (Int32 × jS)} {F_stepOfCall : jS → Int32 → Option (Int32 × jS)} {F_stepOfFirst : jS → Int32 → Option (Int32 × jS)} {F_stepOfSum : jS → Int32 → Option (Int32 × jS)} {F_stepOfChoice : jS → Int32 → Option (Int32 × jS)} (i0 : ∀ (c r : jS) (a1 : Int32) (vE : Int32) (cE : jS), F_stepOf c a1 = some (vE, cE) → jC l D G e M_xStepper_stepOf [.ref 24, .int a1] (jmix c r) (some (.int vE)) (jmix cE r)) (i1 : ∀ (c r : jS) (a1 : Int32) (vE : Int32) (cE : jS), F_stepOfCall c a1 = some (vE, cE) → jC l D G e M_xStepper_stepOfCall [.ref 24, .int a1] (jmix c r) (some (.int vE)) (jmix cE r)) (i2 : ∀ (c r : jS) (a1 : Int32) (vE : Int32) (cE : jS), F_stepOfFirst c a1 = some (vE, cE) → jC l D G e M_xStepper_stepOfFirst [.ref 24, .int a1] (jmix c r) (some (.int vE)) (jmix cE r)) (i3 : ∀ (c r : jS) (a1 : Int32) (vE : Int32) (cE : jS), F_stepOfSum c a1 = some (vE, cE) → jC l D G e M_xStepper_stepOfSum [.ref 24, .int a1] (jmix c r) (some (.int vE)) (jmix cE r)) (i4 : ∀ (c r : jS) (a1 : Int32) (vE : Int32) (cE : jS), F_stepOfChoice c a1 = some (vE, cE) → jC l D G e M_xStepper_stepOfChoice [.ref 24, .int a1] (jmix c r) (some (.int vE)) (jmix cE r)) (hdp : 135 ≤ d) (hde : e + 1 ≤ d) {c r : jS} {a1 : Int32} {vE : Int32} {cE : jS} (h : b_xStepper_stepOfCall F_stepOf F_stepOfCall F_stepOfFirst F_stepOfSum F_stepOfChoice c a1 = some (vE, cE)) : jC l D G d M_xStepper_stepOfCall [.ref 24, .int a1] (jmix c r) (some (.int vE)) (jmix cE r) := by
  refine jM_of rfl (Nat.le_of_ble_eq_true rfl) ?_
  intro X hl hD hG _ _ hX hE _
  subst hl hD hG
  unfold b_xStepper_stepOfCall at h
  show J X 0 0 jN (jE (jmix c r)) [(0, .ref 24), (1, .int a1)] [] 0
  refine j_aload_n (pc := 0) hX dX5_stepOfCall_0 rfl rfl ?_
  refine k_getR (pc := 1) (q := 5) hX fl_5_9 dX5_stepOfCall_1 rfl rfl ?_
  refine j_iload_n (pc := 4) hX dX5_stepOfCall_4 rfl rfl ?_
  obtain ⟨r1, h1, h⟩ := ob_some h
  refine k_callVI (pc := 5) (st := []) hX ln_5_34 dX5_stepOfCall_5 (t_xTerms_firstOf (d := 1) (Nat.le_refl _) h1) rfl rfl rfl (by omega) (Nat.le_of_ble_eq_true rfl) ?_
  refine j_istore_n (pc := 8) hX dX5_stepOfCall_8 rfl (by decide) (by decide) ?_
  refine j_aload_n (pc := 9) hX dX5_stepOfCall_9 rfl rfl ?_
  refine k_getR (pc := 10) (q := 5) hX fl_5_9 dX5_stepOfCall_10 rfl rfl ?_
  refine j_iload_n (pc := 13) hX dX5_stepOfCall_13 rfl rfl ?_
  obtain ⟨r2, h1, h⟩ := ob_some h
  refine k_callVI (pc := 14) (st := []) hX ln_5_19 dX5_stepOfCall_14 (t_xTerms_kindOf (d := 1) (Nat.le_refl _) h1) rfl rfl rfl (by omega) (Nat.le_of_ble_eq_true rfl) ?_
  refine j_iconst (pc := 17) (v := (2 : Int32)) hX dX5_stepOfCall_17 (by decide) ?_
  refine j_icmp_ne (pc := 18) (tgt := 53) hX dX5_stepOfCall_18 (by decide) (fun z => ?_) (fun z => ?_)
  · replace h := ite_f z h
    refine j_aload_n (pc := 53) hX dX5_stepOfCall_53 rfl rfl ?_
    refine j_iload_n (pc := 54) hX dX5_stepOfCall_54 rfl rfl ?_
    obtain ⟨r3, c4, h1, h⟩ := bd_some h
    refine k_callVI (pc := 55) (st := []) hX ln_5_49 dX5_stepOfCall_55 (i2 _ _ _ _ _ h1) rfl rfl rfl hde (Nat.le_of_ble_eq_true rfl) ?_
    obtain ⟨h, h0⟩ := Prod.mk.inj (Option.some.inj h)
    subst h h0
    exact j_iret (pc := 58) hX hE rfl rfl dX5_stepOfCall_58 (Nat.le_refl 0) (Nat.le_refl 0) ⟨rfl, rfl, rfl⟩
  · replace h := ite_t z h
    refine j_aload_n (pc := 21) hX dX5_stepOfCall_21 rfl rfl ?_
    refine k_getR (pc := 22) (q := 23) hX fl_5_15 dX5_stepOfCall_22 rfl rfl ?_
    refine j_aload_n (pc := 25) hX dX5_stepOfCall_25 rfl rfl ?_
    refine k_getR (pc := 26) (q := 5) hX fl_5_9 dX5_stepOfCall_26 rfl rfl ?_
    refine j_iload_n (pc := 29) hX dX5_stepOfCall_29 rfl rfl ?_
    obtain ⟨r5, h1, h⟩ := ob_some h
    refine k_callVI (pc := 30) (st := [.ref 23]) hX ln_5_34 dX5_stepOfCall_30 (t_xTerms_firstOf (d := 1) (Nat.le_refl _) h1) rfl rfl rfl (by omega) (Nat.le_of_ble_eq_true rfl) ?_
    refine j_aload_n (pc := 33) hX dX5_stepOfCall_33 rfl rfl ?_
    refine k_getR (pc := 34) (q := 5) hX fl_5_9 dX5_stepOfCall_34 rfl rfl ?_
    refine j_iload_n (pc := 37) hX dX5_stepOfCall_37 rfl rfl ?_
    obtain ⟨r6, h1, h⟩ := ob_some h
    refine k_callVI (pc := 38) (st := [.int r5, .ref 23]) hX ln_5_31 dX5_stepOfCall_38 (t_xTerms_letterOf (d := 1) (Nat.le_refl _) h1) rfl rfl rfl (by omega) (Nat.le_of_ble_eq_true rfl) ?_
    refine j_aload_n (pc := 41) hX dX5_stepOfCall_41 rfl rfl ?_
    refine k_getR (pc := 42) (q := 5) hX fl_5_9 dX5_stepOfCall_42 rfl rfl ?_
    refine j_iload_n (pc := 45) hX dX5_stepOfCall_45 rfl rfl ?_
    obtain ⟨r7, h1, h⟩ := ob_some h
    refine k_callVI (pc := 46) (st := [.int r6, .int r5, .ref 23]) hX ln_5_28 dX5_stepOfCall_46 (t_xTerms_secondOf (d := 1) (Nat.le_refl _) h1) rfl rfl rfl (by omega) (Nat.le_of_ble_eq_true rfl) ?_
    obtain ⟨r8, c9, h1, h⟩ := bd_some h
    refine k_callVI (pc := 49) (st := []) hX ln_5_37 dX5_stepOfCall_49 (t_xPutter_into h1) rfl rfl rfl (by omega) (Nat.le_of_ble_eq_true rfl) ?_
    obtain ⟨h, h0⟩ := Prod.mk.inj (Option.some.inj h)
    subst h h0
    exact j_iret (pc := 52) hX hE rfl rfl dX5_stepOfCall_52 (Nat.le_refl 0) (Nat.le_refl 0) ⟨rfl, rfl, rfl⟩

set_option maxHeartbeats 4000000 in
set_option maxRecDepth 100000 in
theorem tb_xStepper_stepOfFirst {l : Launch} {D : va_G} {G : Nat → ClassId} {d : Nat} {e : Nat} {F_stepOf : jS → Int32 → Option (Int32 × jS)} {F_stepOfCall : jS → Int32 → Option (Int32 × jS)} {F_stepOfFirst : jS → Int32 → Option (Int32 × jS)} {F_stepOfSum : jS → Int32 → Option (Int32 × jS)} {F_stepOfChoice : jS → Int32 → Option (Int32 × jS)} (i0 : ∀ (c r : jS) (a1 : Int32) (vE : Int32) (cE : jS), F_stepOf c a1 = some (vE, cE) → jC l D G e M_xStepper_stepOf [.ref 24, .int a1] (jmix c r) (some (.int vE)) (jmix cE r)) (i1 : ∀ (c r : jS) (a1 : Int32) (vE : Int32) (cE : jS), F_stepOfCall c a1 = some (vE, cE) → jC l D G e M_xStepper_stepOfCall [.ref 24, .int a1] (jmix c r) (some (.int vE)) (jmix cE r)) (i2 : ∀ (c r : jS) (a1 : Int32) (vE : Int32) (cE : jS), F_stepOfFirst c a1 = some (vE, cE) → jC l D G e M_xStepper_stepOfFirst [.ref 24, .int a1] (jmix c r) (some (.int vE)) (jmix cE r)) (i3 : ∀ (c r : jS) (a1 : Int32) (vE : Int32) (cE : jS), F_stepOfSum c a1 = some (vE, cE) → jC l D G e M_xStepper_stepOfSum [.ref 24, .int a1] (jmix c r) (some (.int vE)) (jmix cE r)) (i4 : ∀ (c r : jS) (a1 : Int32) (vE : Int32) (cE : jS), F_stepOfChoice c a1 = some (vE, cE) → jC l D G e M_xStepper_stepOfChoice [.ref 24, .int a1] (jmix c r) (some (.int vE)) (jmix cE r)) (hdp : 135 ≤ d) (hde : e + 1 ≤ d) {c r : jS} {a1 : Int32} {vE : Int32} {cE : jS} (h : b_xStepper_stepOfFirst F_stepOf F_stepOfCall F_stepOfFirst F_stepOfSum F_stepOfChoice c a1 = some (vE, cE)) : jC l D G d M_xStepper_stepOfFirst [.ref 24, .int a1] (jmix c r) (some (.int vE)) (jmix cE r) := by
  refine jM_of rfl (Nat.le_of_ble_eq_true rfl) ?_
  intro X hl hD hG _ _ hX hE _
  subst hl hD hG
  unfold b_xStepper_stepOfFirst at h
  show J X 0 0 jN (jE (jmix c r)) [(0, .ref 24), (1, .int a1)] [] 0
  refine j_aload_n (pc := 0) hX dX5_stepOfFirst_0 rfl rfl ?_
  refine j_aload_n (pc := 1) hX dX5_stepOfFirst_1 rfl rfl ?_
  refine k_getR (pc := 2) (q := 5) hX fl_5_9 dX5_stepOfFirst_2 rfl rfl ?_
  refine j_iload_n (pc := 5) hX dX5_stepOfFirst_5 rfl rfl ?_
  obtain ⟨r1, h1, h⟩ := ob_some h
  refine k_callVI (pc := 6) (st := [.ref 24]) hX ln_5_34 dX5_stepOfFirst_6 (t_xTerms_firstOf (d := 1) (Nat.le_refl _) h1) rfl rfl rfl (by omega) (Nat.le_of_ble_eq_true rfl) ?_
  obtain ⟨r2, c3, h1, h⟩ := bd_some h
  refine k_callVI (pc := 9) (st := []) hX ln_5_58 dX5_stepOfFirst_9 (i0 _ _ _ _ _ h1) rfl rfl rfl hde (Nat.le_of_ble_eq_true rfl) ?_
  refine j_istore_n (pc := 12) hX dX5_stepOfFirst_12 rfl (by decide) (by decide) ?_
  refine j_iload_n (pc := 13) hX dX5_stepOfFirst_13 rfl rfl ?_
  refine j_if_ge (pc := 14) (tgt := 21) hX dX5_stepOfFirst_14 (by decide) (fun z => ?_) (fun z => ?_)
  · replace h := ite_t z h
    refine j_aload_n (pc := 21) hX dX5_stepOfFirst_21 rfl rfl ?_
    refine k_getR (pc := 22) (q := 5) hX fl_5_9 dX5_stepOfFirst_22 rfl rfl ?_
    refine j_iload_n (pc := 25) hX dX5_stepOfFirst_25 rfl rfl ?_
    refine j_bipush (pc := 26) (v := (-2 : Int32)) hX dX5_stepOfFirst_26 (by decide) ?_
    refine j_iload_n (pc := 28) hX dX5_stepOfFirst_28 rfl rfl ?_
    refine j_aload_n (pc := 29) hX dX5_stepOfFirst_29 rfl rfl ?_
    refine k_getR (pc := 30) (q := 5) hX fl_5_9 dX5_stepOfFirst_30 rfl rfl ?_
    refine j_iload_n (pc := 33) hX dX5_stepOfFirst_33 rfl rfl ?_
    obtain ⟨r4, h1, h⟩ := ob_some h
    refine k_callVI (pc := 34) (st := [.int r2, .int (-2 : Int32), .int a1, .ref 5]) hX ln_5_28 dX5_stepOfFirst_34 (t_xTerms_secondOf (d := 1) (Nat.le_refl _) h1) rfl rfl rfl (by omega) (Nat.le_of_ble_eq_true rfl) ?_
    refine j_aload_n (pc := 37) hX dX5_stepOfFirst_37 rfl rfl ?_
    refine k_getR (pc := 38) (q := 5) hX fl_5_9 dX5_stepOfFirst_38 rfl rfl ?_
    refine j_iload_n (pc := 41) hX dX5_stepOfFirst_41 rfl rfl ?_
    obtain ⟨r5, h1, h⟩ := ob_some h
    refine k_callVI (pc := 42) (st := [.int r4, .int r2, .int (-2 : Int32), .int a1, .ref 5]) hX ln_5_65 dX5_stepOfFirst_42 (t_xTerms_thirdOf (d := 1) (Nat.le_refl _) h1) rfl rfl rfl (by omega) (Nat.le_of_ble_eq_true rfl) ?_
    obtain ⟨r6, c7, h1, h⟩ := bd_some h
    refine k_callVI (pc := 45) (st := []) hX ln_5_61 dX5_stepOfFirst_45 (t_xTerms_withParts (d := 3) (Nat.le_refl _) h1) rfl rfl rfl (by omega) (Nat.le_of_ble_eq_true rfl) ?_
    obtain ⟨h, h0⟩ := Prod.mk.inj (Option.some.inj h)
    subst h h0
    exact j_iret (pc := 48) hX hE rfl rfl dX5_stepOfFirst_48 (Nat.le_refl 0) (Nat.le_refl 0) ⟨rfl, rfl, rfl⟩
  · replace h := ite_f z h
    refine j_iload_n (pc := 17) hX dX5_stepOfFirst_17 rfl rfl ?_
    refine j_goto (pc := 18) (tgt := 48) hX dX5_stepOfFirst_18 (by decide) ?_
    obtain ⟨h, h0⟩ := Prod.mk.inj (Option.some.inj h)
    subst h h0
    exact j_iret (pc := 48) hX hE rfl rfl dX5_stepOfFirst_48 (Nat.le_refl 0) (Nat.le_refl 0) ⟨rfl, rfl, rfl⟩

set_option maxHeartbeats 4000000 in
set_option maxRecDepth 100000 in
theorem tb_xStepper_stepOfSum {l : Launch} {D : va_G} {G : Nat → ClassId} {d : Nat} {e : Nat} {F_stepOf : jS → Int32 → Option (Int32 × jS)} {F_stepOfCall : jS → Int32 → Option (Int32 × jS)} {F_stepOfFirst : jS → Int32 → Option (Int32 × jS)} {F_stepOfSum : jS → Int32 → Option (Int32 × jS)} {F_stepOfChoice : jS → Int32 → Option (Int32 × jS)} (i0 : ∀ (c r : jS) (a1 : Int32) (vE : Int32) (cE : jS), F_stepOf c a1 = some (vE, cE) → jC l D G e M_xStepper_stepOf [.ref 24, .int a1] (jmix c r) (some (.int vE)) (jmix cE r)) (i1 : ∀ (c r : jS) (a1 : Int32) (vE : Int32) (cE : jS), F_stepOfCall c a1 = some (vE, cE) → jC l D G e M_xStepper_stepOfCall [.ref 24, .int a1] (jmix c r) (some (.int vE)) (jmix cE r)) (i2 : ∀ (c r : jS) (a1 : Int32) (vE : Int32) (cE : jS), F_stepOfFirst c a1 = some (vE, cE) → jC l D G e M_xStepper_stepOfFirst [.ref 24, .int a1] (jmix c r) (some (.int vE)) (jmix cE r)) (i3 : ∀ (c r : jS) (a1 : Int32) (vE : Int32) (cE : jS), F_stepOfSum c a1 = some (vE, cE) → jC l D G e M_xStepper_stepOfSum [.ref 24, .int a1] (jmix c r) (some (.int vE)) (jmix cE r)) (i4 : ∀ (c r : jS) (a1 : Int32) (vE : Int32) (cE : jS), F_stepOfChoice c a1 = some (vE, cE) → jC l D G e M_xStepper_stepOfChoice [.ref 24, .int a1] (jmix c r) (some (.int vE)) (jmix cE r)) (hdp : 135 ≤ d) (hde : e + 1 ≤ d) {c r : jS} {a1 : Int32} {vE : Int32} {cE : jS} (h : b_xStepper_stepOfSum F_stepOf F_stepOfCall F_stepOfFirst F_stepOfSum F_stepOfChoice c a1 = some (vE, cE)) : jC l D G d M_xStepper_stepOfSum [.ref 24, .int a1] (jmix c r) (some (.int vE)) (jmix cE r) := by
  refine jM_of rfl (Nat.le_of_ble_eq_true rfl) ?_
  intro X hl hD hG _ _ hX hE _
  subst hl hD hG
  unfold b_xStepper_stepOfSum at h
  show J X 0 0 jN (jE (jmix c r)) [(0, .ref 24), (1, .int a1)] [] 0
  refine j_aload_n (pc := 0) hX dX5_stepOfSum_0 rfl rfl ?_
  refine k_getR (pc := 1) (q := 5) hX fl_5_9 dX5_stepOfSum_1 rfl rfl ?_
  refine j_iload_n (pc := 4) hX dX5_stepOfSum_4 rfl rfl ?_
  obtain ⟨r1, h1, h⟩ := ob_some h
  refine k_callVI (pc := 5) (st := []) hX ln_5_34 dX5_stepOfSum_5 (t_xTerms_firstOf (d := 1) (Nat.le_refl _) h1) rfl rfl rfl (by omega) (Nat.le_of_ble_eq_true rfl) ?_
  refine j_istore_n (pc := 8) hX dX5_stepOfSum_8 rfl (by decide) (by decide) ?_
  refine j_aload_n (pc := 9) hX dX5_stepOfSum_9 rfl rfl ?_
  refine k_getR (pc := 10) (q := 5) hX fl_5_9 dX5_stepOfSum_10 rfl rfl ?_
  refine j_iload_n (pc := 13) hX dX5_stepOfSum_13 rfl rfl ?_
  obtain ⟨r2, h1, h⟩ := ob_some h
  refine k_callVI (pc := 14) (st := []) hX ln_5_28 dX5_stepOfSum_14 (t_xTerms_secondOf (d := 1) (Nat.le_refl _) h1) rfl rfl rfl (by omega) (Nat.le_of_ble_eq_true rfl) ?_
  refine j_istore_n (pc := 17) hX dX5_stepOfSum_17 rfl (by decide) (by decide) ?_
  refine j_aload_n (pc := 18) hX dX5_stepOfSum_18 rfl rfl ?_
  refine k_getR (pc := 19) (q := 5) hX fl_5_9 dX5_stepOfSum_19 rfl rfl ?_
  refine j_iload_n (pc := 22) hX dX5_stepOfSum_22 rfl rfl ?_
  obtain ⟨r3, h1, h⟩ := ob_some h
  refine k_callVI (pc := 23) (st := []) hX ln_5_19 dX5_stepOfSum_23 (t_xTerms_kindOf (d := 1) (Nat.le_refl _) h1) rfl rfl rfl (by omega) (Nat.le_of_ble_eq_true rfl) ?_
  refine j_if_eq (pc := 26) (tgt := 35) hX dX5_stepOfSum_26 (by decide) (fun z => ?_) (fun z => ?_)
  · replace h := ite_t z h
    refine j_aload_n (pc := 35) hX dX5_stepOfSum_35 rfl rfl ?_
    refine k_getR (pc := 36) (q := 5) hX fl_5_9 dX5_stepOfSum_36 rfl rfl ?_
    refine j_iload_n (pc := 39) hX dX5_stepOfSum_39 rfl rfl ?_
    obtain ⟨r4, h1, h⟩ := ob_some h
    refine k_callVI (pc := 40) (st := []) hX ln_5_19 dX5_stepOfSum_40 (t_xTerms_kindOf (d := 1) (Nat.le_refl _) h1) rfl rfl rfl (by omega) (Nat.le_of_ble_eq_true rfl) ?_
    refine j_if_ne (pc := 43) (tgt := 71) hX dX5_stepOfSum_43 (by decide) (fun z => ?_) (fun z => ?_)
    · replace h := ite_f z h
      refine j_aload_n (pc := 71) hX dX5_stepOfSum_71 rfl rfl ?_
      refine j_iload_n (pc := 72) hX dX5_stepOfSum_72 rfl rfl ?_
      obtain ⟨r5, c6, h1, h⟩ := bd_some h
      refine k_callVI (pc := 73) (st := []) hX ln_5_58 dX5_stepOfSum_73 (i0 _ _ _ _ _ h1) rfl rfl rfl hde (Nat.le_of_ble_eq_true rfl) ?_
      refine j_istore (pc := 76) hX dX5_stepOfSum_76 (by decide) (by decide) ?_
      refine j_iload (pc := 78) hX dX5_stepOfSum_78 rfl ?_
      refine j_if_ge (pc := 80) (tgt := 88) hX dX5_stepOfSum_80 (by decide) (fun z => ?_) (fun z => ?_)
      · replace h := ite_t z h
        refine j_aload_n (pc := 88) hX dX5_stepOfSum_88 rfl rfl ?_
        refine k_getR (pc := 89) (q := 5) hX fl_5_9 dX5_stepOfSum_89 rfl rfl ?_
        refine j_iload_n (pc := 92) hX dX5_stepOfSum_92 rfl rfl ?_
        refine j_bipush (pc := 93) (v := (-2 : Int32)) hX dX5_stepOfSum_93 (by decide) ?_
        refine j_iload_n (pc := 95) hX dX5_stepOfSum_95 rfl rfl ?_
        refine j_iload (pc := 96) hX dX5_stepOfSum_96 rfl ?_
        refine j_bipush (pc := 98) (v := (-2 : Int32)) hX dX5_stepOfSum_98 (by decide) ?_
        obtain ⟨r7, c8, h1, h⟩ := bd_some h
        refine k_callVI (pc := 100) (st := []) hX ln_5_61 dX5_stepOfSum_100 (t_xTerms_withParts (d := 3) (Nat.le_refl _) h1) rfl rfl rfl (by omega) (Nat.le_of_ble_eq_true rfl) ?_
        obtain ⟨h, h0⟩ := Prod.mk.inj (Option.some.inj h)
        subst h h0
        exact j_iret (pc := 103) hX hE rfl rfl dX5_stepOfSum_103 (Nat.le_refl 0) (Nat.le_refl 0) ⟨rfl, rfl, rfl⟩
      · replace h := ite_f z h
        refine j_iload (pc := 83) hX dX5_stepOfSum_83 rfl ?_
        refine j_goto (pc := 85) (tgt := 103) hX dX5_stepOfSum_85 (by decide) ?_
        obtain ⟨h, h0⟩ := Prod.mk.inj (Option.some.inj h)
        subst h h0
        exact j_iret (pc := 103) hX hE rfl rfl dX5_stepOfSum_103 (Nat.le_refl 0) (Nat.le_refl 0) ⟨rfl, rfl, rfl⟩
    · replace h := ite_t z h
      refine j_aload_n (pc := 46) hX dX5_stepOfSum_46 rfl rfl ?_
      refine k_getR (pc := 47) (q := 5) hX fl_5_9 dX5_stepOfSum_47 rfl rfl ?_
      refine j_aload_n (pc := 50) hX dX5_stepOfSum_50 rfl rfl ?_
      refine k_getR (pc := 51) (q := 5) hX fl_5_9 dX5_stepOfSum_51 rfl rfl ?_
      refine j_iload_n (pc := 54) hX dX5_stepOfSum_54 rfl rfl ?_
      obtain ⟨r9, h1, h⟩ := ob_some h
      refine k_callVI (pc := 55) (st := [.ref 5]) hX ln_5_52 dX5_stepOfSum_55 (t_xTerms_numberOf (d := 1) (Nat.le_refl _) h1) rfl rfl rfl (by omega) (Nat.le_of_ble_eq_true rfl) ?_
      refine j_aload_n (pc := 58) hX dX5_stepOfSum_58 rfl rfl ?_
      refine k_getR (pc := 59) (q := 5) hX fl_5_9 dX5_stepOfSum_59 rfl rfl ?_
      refine j_iload_n (pc := 62) hX dX5_stepOfSum_62 rfl rfl ?_
      obtain ⟨r10, h1, h⟩ := ob_some h
      refine k_callVI (pc := 63) (st := [.int r9, .ref 5]) hX ln_5_52 dX5_stepOfSum_63 (t_xTerms_numberOf (d := 1) (Nat.le_refl _) h1) rfl rfl rfl (by omega) (Nat.le_of_ble_eq_true rfl) ?_
      refine j_iadd (pc := 66) hX dX5_stepOfSum_66 ?_
      obtain ⟨r11, c12, h1, h⟩ := bd_some h
      refine k_callVI (pc := 67) (st := []) hX ln_5_55 dX5_stepOfSum_67 (t_xTerms_newNumber (d := 3) (Nat.le_refl _) h1) rfl rfl rfl (by omega) (Nat.le_of_ble_eq_true rfl) ?_
      obtain ⟨h, h0⟩ := Prod.mk.inj (Option.some.inj h)
      subst h h0
      exact j_iret (pc := 70) hX hE rfl rfl dX5_stepOfSum_70 (Nat.le_refl 0) (Nat.le_refl 0) ⟨rfl, rfl, rfl⟩
  · replace h := ite_f z h
    refine j_aload_n (pc := 29) hX dX5_stepOfSum_29 rfl rfl ?_
    refine j_iload_n (pc := 30) hX dX5_stepOfSum_30 rfl rfl ?_
    obtain ⟨r13, c14, h1, h⟩ := bd_some h
    refine k_callVI (pc := 31) (st := []) hX ln_5_49 dX5_stepOfSum_31 (i2 _ _ _ _ _ h1) rfl rfl rfl hde (Nat.le_of_ble_eq_true rfl) ?_
    obtain ⟨h, h0⟩ := Prod.mk.inj (Option.some.inj h)
    subst h h0
    exact j_iret (pc := 34) hX hE rfl rfl dX5_stepOfSum_34 (Nat.le_refl 0) (Nat.le_refl 0) ⟨rfl, rfl, rfl⟩

set_option maxHeartbeats 4000000 in
set_option maxRecDepth 100000 in
theorem tb_xStepper_stepOfChoice {l : Launch} {D : va_G} {G : Nat → ClassId} {d : Nat} {e : Nat} {F_stepOf : jS → Int32 → Option (Int32 × jS)} {F_stepOfCall : jS → Int32 → Option (Int32 × jS)} {F_stepOfFirst : jS → Int32 → Option (Int32 × jS)} {F_stepOfSum : jS → Int32 → Option (Int32 × jS)} {F_stepOfChoice : jS → Int32 → Option (Int32 × jS)} (i0 : ∀ (c r : jS) (a1 : Int32) (vE : Int32) (cE : jS), F_stepOf c a1 = some (vE, cE) → jC l D G e M_xStepper_stepOf [.ref 24, .int a1] (jmix c r) (some (.int vE)) (jmix cE r)) (i1 : ∀ (c r : jS) (a1 : Int32) (vE : Int32) (cE : jS), F_stepOfCall c a1 = some (vE, cE) → jC l D G e M_xStepper_stepOfCall [.ref 24, .int a1] (jmix c r) (some (.int vE)) (jmix cE r)) (i2 : ∀ (c r : jS) (a1 : Int32) (vE : Int32) (cE : jS), F_stepOfFirst c a1 = some (vE, cE) → jC l D G e M_xStepper_stepOfFirst [.ref 24, .int a1] (jmix c r) (some (.int vE)) (jmix cE r)) (i3 : ∀ (c r : jS) (a1 : Int32) (vE : Int32) (cE : jS), F_stepOfSum c a1 = some (vE, cE) → jC l D G e M_xStepper_stepOfSum [.ref 24, .int a1] (jmix c r) (some (.int vE)) (jmix cE r)) (i4 : ∀ (c r : jS) (a1 : Int32) (vE : Int32) (cE : jS), F_stepOfChoice c a1 = some (vE, cE) → jC l D G e M_xStepper_stepOfChoice [.ref 24, .int a1] (jmix c r) (some (.int vE)) (jmix cE r)) (hdp : 135 ≤ d) (hde : e + 1 ≤ d) {c r : jS} {a1 : Int32} {vE : Int32} {cE : jS} (h : b_xStepper_stepOfChoice F_stepOf F_stepOfCall F_stepOfFirst F_stepOfSum F_stepOfChoice c a1 = some (vE, cE)) : jC l D G d M_xStepper_stepOfChoice [.ref 24, .int a1] (jmix c r) (some (.int vE)) (jmix cE r) := by
  refine jM_of rfl (Nat.le_of_ble_eq_true rfl) ?_
  intro X hl hD hG _ _ hX hE _
  subst hl hD hG
  unfold b_xStepper_stepOfChoice at h
  show J X 0 0 jN (jE (jmix c r)) [(0, .ref 24), (1, .int a1)] [] 0
  refine j_aload_n (pc := 0) hX dX5_stepOfChoice_0 rfl rfl ?_
  refine k_getR (pc := 1) (q := 5) hX fl_5_9 dX5_stepOfChoice_1 rfl rfl ?_
  refine j_iload_n (pc := 4) hX dX5_stepOfChoice_4 rfl rfl ?_
  obtain ⟨r1, h1, h⟩ := ob_some h
  refine k_callVI (pc := 5) (st := []) hX ln_5_34 dX5_stepOfChoice_5 (t_xTerms_firstOf (d := 1) (Nat.le_refl _) h1) rfl rfl rfl (by omega) (Nat.le_of_ble_eq_true rfl) ?_
  refine j_istore_n (pc := 8) hX dX5_stepOfChoice_8 rfl (by decide) (by decide) ?_
  refine j_aload_n (pc := 9) hX dX5_stepOfChoice_9 rfl rfl ?_
  refine k_getR (pc := 10) (q := 5) hX fl_5_9 dX5_stepOfChoice_10 rfl rfl ?_
  refine j_iload_n (pc := 13) hX dX5_stepOfChoice_13 rfl rfl ?_
  obtain ⟨r2, h1, h⟩ := ob_some h
  refine k_callVI (pc := 14) (st := []) hX ln_5_19 dX5_stepOfChoice_14 (t_xTerms_kindOf (d := 1) (Nat.le_refl _) h1) rfl rfl rfl (by omega) (Nat.le_of_ble_eq_true rfl) ?_
  refine j_if_eq (pc := 17) (tgt := 26) hX dX5_stepOfChoice_17 (by decide) (fun z => ?_) (fun z => ?_)
  · replace h := ite_t z h
    refine j_aload_n (pc := 26) hX dX5_stepOfChoice_26 rfl rfl ?_
    refine k_getR (pc := 27) (q := 5) hX fl_5_9 dX5_stepOfChoice_27 rfl rfl ?_
    refine j_iload_n (pc := 30) hX dX5_stepOfChoice_30 rfl rfl ?_
    obtain ⟨r3, h1, h⟩ := ob_some h
    refine k_callVI (pc := 31) (st := []) hX ln_5_52 dX5_stepOfChoice_31 (t_xTerms_numberOf (d := 1) (Nat.le_refl _) h1) rfl rfl rfl (by omega) (Nat.le_of_ble_eq_true rfl) ?_
    refine j_if_eq (pc := 34) (tgt := 48) hX dX5_stepOfChoice_34 (by decide) (fun z => ?_) (fun z => ?_)
    · replace h := ite_t z h
      refine j_aload_n (pc := 48) hX dX5_stepOfChoice_48 rfl rfl ?_
      refine k_getR (pc := 49) (q := 5) hX fl_5_9 dX5_stepOfChoice_49 rfl rfl ?_
      refine j_iload_n (pc := 52) hX dX5_stepOfChoice_52 rfl rfl ?_
      obtain ⟨r4, h1, h⟩ := ob_some h
      refine k_callVI (pc := 53) (st := []) hX ln_5_65 dX5_stepOfChoice_53 (t_xTerms_thirdOf (d := 1) (Nat.le_refl _) h1) rfl rfl rfl (by omega) (Nat.le_of_ble_eq_true rfl) ?_
      obtain ⟨h, h0⟩ := Prod.mk.inj (Option.some.inj h)
      subst h h0
      exact j_iret (pc := 56) hX hE rfl rfl dX5_stepOfChoice_56 (Nat.le_refl 0) (Nat.le_refl 0) ⟨rfl, rfl, rfl⟩
    · replace h := ite_f z h
      refine j_aload_n (pc := 37) hX dX5_stepOfChoice_37 rfl rfl ?_
      refine k_getR (pc := 38) (q := 5) hX fl_5_9 dX5_stepOfChoice_38 rfl rfl ?_
      refine j_iload_n (pc := 41) hX dX5_stepOfChoice_41 rfl rfl ?_
      obtain ⟨r5, h1, h⟩ := ob_some h
      refine k_callVI (pc := 42) (st := []) hX ln_5_28 dX5_stepOfChoice_42 (t_xTerms_secondOf (d := 1) (Nat.le_refl _) h1) rfl rfl rfl (by omega) (Nat.le_of_ble_eq_true rfl) ?_
      refine j_goto (pc := 45) (tgt := 56) hX dX5_stepOfChoice_45 (by decide) ?_
      obtain ⟨h, h0⟩ := Prod.mk.inj (Option.some.inj h)
      subst h h0
      exact j_iret (pc := 56) hX hE rfl rfl dX5_stepOfChoice_56 (Nat.le_refl 0) (Nat.le_refl 0) ⟨rfl, rfl, rfl⟩
  · replace h := ite_f z h
    refine j_aload_n (pc := 20) hX dX5_stepOfChoice_20 rfl rfl ?_
    refine j_iload_n (pc := 21) hX dX5_stepOfChoice_21 rfl rfl ?_
    obtain ⟨r6, c7, h1, h⟩ := bd_some h
    refine k_callVI (pc := 22) (st := []) hX ln_5_49 dX5_stepOfChoice_22 (i2 _ _ _ _ _ h1) rfl rfl rfl hde (Nat.le_of_ble_eq_true rfl) ?_
    obtain ⟨h, h0⟩ := Prod.mk.inj (Option.some.inj h)
    subst h h0
    exact j_iret (pc := 25) hX hE rfl rfl dX5_stepOfChoice_25 (Nat.le_refl 0) (Nat.le_refl 0) ⟨rfl, rfl, rfl⟩

set_option maxHeartbeats 4000000 in
set_option maxRecDepth 100000 in
theorem tg_xStepper_stepOf {l : Launch} {D : va_G} {G : Nat → ClassId} : ∀ f : Nat, (∀ (c r : jS) (a1 : Int32) (vE : Int32) (cE : jS), xStepper_stepOf f c a1 = some (vE, cE) → jC l D G (f + 135) M_xStepper_stepOf [.ref 24, .int a1] (jmix c r) (some (.int vE)) (jmix cE r)) ∧
    (∀ (c r : jS) (a1 : Int32) (vE : Int32) (cE : jS), xStepper_stepOfCall f c a1 = some (vE, cE) → jC l D G (f + 135) M_xStepper_stepOfCall [.ref 24, .int a1] (jmix c r) (some (.int vE)) (jmix cE r)) ∧
    (∀ (c r : jS) (a1 : Int32) (vE : Int32) (cE : jS), xStepper_stepOfFirst f c a1 = some (vE, cE) → jC l D G (f + 135) M_xStepper_stepOfFirst [.ref 24, .int a1] (jmix c r) (some (.int vE)) (jmix cE r)) ∧
    (∀ (c r : jS) (a1 : Int32) (vE : Int32) (cE : jS), xStepper_stepOfSum f c a1 = some (vE, cE) → jC l D G (f + 135) M_xStepper_stepOfSum [.ref 24, .int a1] (jmix c r) (some (.int vE)) (jmix cE r)) ∧
    (∀ (c r : jS) (a1 : Int32) (vE : Int32) (cE : jS), xStepper_stepOfChoice f c a1 = some (vE, cE) → jC l D G (f + 135) M_xStepper_stepOfChoice [.ref 24, .int a1] (jmix c r) (some (.int vE)) (jmix cE r)) := by
  intro f
  induction f with
  | zero =>
    exact ⟨fun _ _ _ _ _ h => (by cases h), fun _ _ _ _ _ h => (by cases h), fun _ _ _ _ _ h => (by cases h), fun _ _ _ _ _ h => (by cases h), fun _ _ _ _ _ h => (by cases h)⟩
  | succ f ih =>
    obtain ⟨i0, i1, i2, i3, i4⟩ := ih
    exact ⟨fun _ _ _ _ _ h => tb_xStepper_stepOf (e := f + 135) i0 i1 i2 i3 i4 (by omega) (by omega) h,
      fun _ _ _ _ _ h => tb_xStepper_stepOfCall (e := f + 135) i0 i1 i2 i3 i4 (by omega) (by omega) h,
      fun _ _ _ _ _ h => tb_xStepper_stepOfFirst (e := f + 135) i0 i1 i2 i3 i4 (by omega) (by omega) h,
      fun _ _ _ _ _ h => tb_xStepper_stepOfSum (e := f + 135) i0 i1 i2 i3 i4 (by omega) (by omega) h,
      fun _ _ _ _ _ h => tb_xStepper_stepOfChoice (e := f + 135) i0 i1 i2 i3 i4 (by omega) (by omega) h⟩

theorem t_xStepper_stepOf {l : Launch} {D : va_G} {G : Nat → ClassId} {c r : jS} {a1 : Int32} {vE : Int32} {cE : jS} (h : xStepper_stepOf 130 c a1 = some (vE, cE)) : jC l D G 265 M_xStepper_stepOf [.ref 24, .int a1] (jmix c r) (some (.int vE)) (jmix cE r) := (tg_xStepper_stepOf 130).1 _ _ _ _ _ h

theorem t_xStepper_stepOfCall {l : Launch} {D : va_G} {G : Nat → ClassId} {c r : jS} {a1 : Int32} {vE : Int32} {cE : jS} (h : xStepper_stepOfCall 130 c a1 = some (vE, cE)) : jC l D G 265 M_xStepper_stepOfCall [.ref 24, .int a1] (jmix c r) (some (.int vE)) (jmix cE r) := (tg_xStepper_stepOf 130).2.1 _ _ _ _ _ h

theorem t_xStepper_stepOfFirst {l : Launch} {D : va_G} {G : Nat → ClassId} {c r : jS} {a1 : Int32} {vE : Int32} {cE : jS} (h : xStepper_stepOfFirst 130 c a1 = some (vE, cE)) : jC l D G 265 M_xStepper_stepOfFirst [.ref 24, .int a1] (jmix c r) (some (.int vE)) (jmix cE r) := (tg_xStepper_stepOf 130).2.2.1 _ _ _ _ _ h

theorem t_xStepper_stepOfSum {l : Launch} {D : va_G} {G : Nat → ClassId} {c r : jS} {a1 : Int32} {vE : Int32} {cE : jS} (h : xStepper_stepOfSum 130 c a1 = some (vE, cE)) : jC l D G 265 M_xStepper_stepOfSum [.ref 24, .int a1] (jmix c r) (some (.int vE)) (jmix cE r) := (tg_xStepper_stepOf 130).2.2.2.1 _ _ _ _ _ h

theorem t_xStepper_stepOfChoice {l : Launch} {D : va_G} {G : Nat → ClassId} {c r : jS} {a1 : Int32} {vE : Int32} {cE : jS} (h : xStepper_stepOfChoice 130 c a1 = some (vE, cE)) : jC l D G 265 M_xStepper_stepOfChoice [.ref 24, .int a1] (jmix c r) (some (.int vE)) (jmix cE r) := (tg_xStepper_stepOf 130).2.2.2.2 _ _ _ _ _ h

set_option maxHeartbeats 4000000 in
set_option maxRecDepth 100000 in
theorem tj_xTerms_usesOf_P51 {X : jX} {d : Nat} {e : Nat} {F_usesOf : jS → Int32 → Int32 → Option Int32} (i0 : ∀ (c r : jS) (a1 : Int32) (a2 : Int32) (vE : Int32), F_usesOf c a1 a2 = some vE → jC X.l X.D X.G e M_xTerms_usesOf [.ref 5, .int a1, .int a2] (jmix c r) (some (.int vE)) (jmix c r)) {c r : jS} {vE : Int32} (hX : jOk X RX6 cX6_usesOf 3 d) (hdp : 3 ≤ d) (hde : e + 1 ≤ d) (hE : jEnd X (some .int) 0 0 (fun r0 n0 h0 => r0 = (some (.int vE)) ∧ n0 = jN ∧ h0 = jE (jmix c r))) : ∀ (v1 : Int32) (v2 : Int32), xTerms_usesOf_P51 F_usesOf v1 v2 c = some vE → J X 0 0 jN (jE (jmix c r)) [(0, .ref 5), (1, .int v1), (2, .int v2)] [] 51 := by
  intro v1 v2 h
  unfold xTerms_usesOf_P51 at h
  refine j_aload_n (pc := 51) hX dX6_usesOf_51 rfl rfl ?_
  refine j_aload_n (pc := 52) hX dX6_usesOf_52 rfl rfl ?_
  refine j_iload_n (pc := 53) hX dX6_usesOf_53 rfl rfl ?_
  obtain ⟨r4, h1, h⟩ := ob_some h
  refine k_callVI (pc := 54) (st := [.ref 5]) hX ln_6_74 dX6_usesOf_54 (t_xTerms_firstOf (d := 1) (Nat.le_refl _) h1) rfl rfl rfl (by omega) (Nat.le_of_ble_eq_true rfl) ?_
  refine j_iload_n (pc := 57) hX dX6_usesOf_57 rfl rfl ?_
  obtain ⟨r5, h1, h⟩ := ob_some h
  refine k_callVI (pc := 58) (st := []) hX ln_6_77 dX6_usesOf_58 (i0 _ _ _ _ _ h1) rfl rfl rfl hde (Nat.le_of_ble_eq_true rfl) ?_
  refine j_aload_n (pc := 61) hX dX6_usesOf_61 rfl rfl ?_
  refine j_aload_n (pc := 62) hX dX6_usesOf_62 rfl rfl ?_
  refine j_iload_n (pc := 63) hX dX6_usesOf_63 rfl rfl ?_
  obtain ⟨r6, h1, h⟩ := ob_some h
  refine k_callVI (pc := 64) (st := [.ref 5, .int r5]) hX ln_6_81 dX6_usesOf_64 (t_xTerms_secondOf (d := 1) (Nat.le_refl _) h1) rfl rfl rfl (by omega) (Nat.le_of_ble_eq_true rfl) ?_
  refine j_iload_n (pc := 67) hX dX6_usesOf_67 rfl rfl ?_
  obtain ⟨r7, h1, h⟩ := ob_some h
  refine k_callVI (pc := 68) (st := [.int r5]) hX ln_6_77 dX6_usesOf_68 (i0 _ _ _ _ _ h1) rfl rfl rfl hde (Nat.le_of_ble_eq_true rfl) ?_
  refine j_iadd (pc := 71) hX dX6_usesOf_71 ?_
  refine j_aload_n (pc := 72) hX dX6_usesOf_72 rfl rfl ?_
  refine j_aload_n (pc := 73) hX dX6_usesOf_73 rfl rfl ?_
  refine j_iload_n (pc := 74) hX dX6_usesOf_74 rfl rfl ?_
  obtain ⟨r8, h1, h⟩ := ob_some h
  refine k_callVI (pc := 75) (st := [.ref 5, .int (r5 + r7)]) hX ln_6_84 dX6_usesOf_75 (t_xTerms_thirdOf (d := 1) (Nat.le_refl _) h1) rfl rfl rfl (by omega) (Nat.le_of_ble_eq_true rfl) ?_
  refine j_iload_n (pc := 78) hX dX6_usesOf_78 rfl rfl ?_
  obtain ⟨r9, h1, h⟩ := ob_some h
  refine k_callVI (pc := 79) (st := [.int (r5 + r7)]) hX ln_6_77 dX6_usesOf_79 (i0 _ _ _ _ _ h1) rfl rfl rfl hde (Nat.le_of_ble_eq_true rfl) ?_
  refine j_iadd (pc := 82) hX dX6_usesOf_82 ?_
  replace h := Option.some.inj h
  subst h
  exact j_iret (pc := 83) hX hE rfl rfl dX6_usesOf_83 (Nat.le_refl 0) (Nat.le_refl 0) ⟨rfl, rfl, rfl⟩
set_option maxHeartbeats 4000000 in
set_option maxRecDepth 100000 in
theorem tb_xTerms_usesOf {l : Launch} {D : va_G} {G : Nat → ClassId} {d : Nat} {e : Nat} {F_usesOf : jS → Int32 → Int32 → Option Int32} (i0 : ∀ (c r : jS) (a1 : Int32) (a2 : Int32) (vE : Int32), F_usesOf c a1 a2 = some vE → jC l D G e M_xTerms_usesOf [.ref 5, .int a1, .int a2] (jmix c r) (some (.int vE)) (jmix c r)) (hdp : 3 ≤ d) (hde : e + 1 ≤ d) {c r : jS} {a1 : Int32} {a2 : Int32} {vE : Int32} (h : b_xTerms_usesOf F_usesOf c a1 a2 = some vE) : jC l D G d M_xTerms_usesOf [.ref 5, .int a1, .int a2] (jmix c r) (some (.int vE)) (jmix c r) := by
  refine jM_of rfl (Nat.le_of_ble_eq_true rfl) ?_
  intro X hl hD hG _ _ hX hE _
  subst hl hD hG
  unfold b_xTerms_usesOf at h
  show J X 0 0 jN (jE (jmix c r)) [(0, .ref 5), (1, .int a1), (2, .int a2)] [] 0
  refine j_aload_n (pc := 0) hX dX6_usesOf_0 rfl rfl ?_
  refine j_iload_n (pc := 1) hX dX6_usesOf_1 rfl rfl ?_
  refine j_iload_n (pc := 2) hX dX6_usesOf_2 rfl rfl ?_
  obtain ⟨r1, h1, h⟩ := ob_some h
  refine k_callVI (pc := 3) (st := []) hX ln_6_64 dX6_usesOf_3 (t_xTerms_isFree (d := 2) (Nat.le_refl _) h1) rfl rfl rfl (by omega) (Nat.le_of_ble_eq_true rfl) ?_
  refine j_if_ne (pc := 6) (tgt := 11) hX dX6_usesOf_6 (by decide) (fun z => ?_) (fun z => ?_)
  · replace h := ite_f z h
    refine j_aload_n (pc := 11) hX dX6_usesOf_11 rfl rfl ?_
    refine j_iload_n (pc := 12) hX dX6_usesOf_12 rfl rfl ?_
    obtain ⟨r2, h1, h⟩ := ob_some h
    refine k_callVI (pc := 13) (st := []) hX ln_6_68 dX6_usesOf_13 (t_xTerms_kindOf (d := 1) (Nat.le_refl _) h1) rfl rfl rfl (by omega) (Nat.le_of_ble_eq_true rfl) ?_
    refine j_iconst (pc := 16) (v := (1 : Int32)) hX dX6_usesOf_16 (by decide) ?_
    refine j_icmp_ne (pc := 17) (tgt := 22) hX dX6_usesOf_17 (by decide) (fun z => ?_) (fun z => ?_)
    · replace h := ite_f z h
      refine j_aload_n (pc := 22) hX dX6_usesOf_22 rfl rfl ?_
      refine j_iload_n (pc := 23) hX dX6_usesOf_23 rfl rfl ?_
      obtain ⟨r3, h1, h⟩ := ob_some h
      refine k_callVI (pc := 24) (st := []) hX ln_6_68 dX6_usesOf_24 (t_xTerms_kindOf (d := 1) (Nat.le_refl _) h1) rfl rfl rfl (by omega) (Nat.le_of_ble_eq_true rfl) ?_
      refine j_iconst (pc := 27) (v := (4 : Int32)) hX dX6_usesOf_27 (by decide) ?_
      refine j_icmp_ne (pc := 28) (tgt := 51) hX dX6_usesOf_28 (by decide) (fun z => ?_) (fun z => ?_)
      · replace h := ite_f z h
        refine j_sub (lv' := [(0, .ref 5), (1, .int a1), (2, .int a2)]) ⟨rfl, rfl, rfl, trivial⟩ ?_
        exact tj_xTerms_usesOf_P51 i0 hX hdp hde hE _ _ h
      · replace h := ite_t z h
        refine j_aload_n (pc := 31) hX dX6_usesOf_31 rfl rfl ?_
        refine j_iload_n (pc := 32) hX dX6_usesOf_32 rfl rfl ?_
        obtain ⟨r10, h1, h⟩ := ob_some h
        refine k_callVI (pc := 33) (st := []) hX ln_6_71 dX6_usesOf_33 (t_xTerms_letterOf (d := 1) (Nat.le_refl _) h1) rfl rfl rfl (by omega) (Nat.le_of_ble_eq_true rfl) ?_
        refine j_iload_n (pc := 36) hX dX6_usesOf_36 rfl rfl ?_
        refine j_icmp_ne (pc := 37) (tgt := 51) hX dX6_usesOf_37 (by decide) (fun z => ?_) (fun z => ?_)
        · replace h := ite_f z h
          refine j_sub (lv' := [(0, .ref 5), (1, .int a1), (2, .int a2)]) ⟨rfl, rfl, rfl, trivial⟩ ?_
          exact tj_xTerms_usesOf_P51 i0 hX hdp hde hE _ _ h
        · replace h := ite_t z h
          refine j_aload_n (pc := 40) hX dX6_usesOf_40 rfl rfl ?_
          refine j_aload_n (pc := 41) hX dX6_usesOf_41 rfl rfl ?_
          refine j_iload_n (pc := 42) hX dX6_usesOf_42 rfl rfl ?_
          obtain ⟨r11, h1, h⟩ := ob_some h
          refine k_callVI (pc := 43) (st := [.ref 5]) hX ln_6_74 dX6_usesOf_43 (t_xTerms_firstOf (d := 1) (Nat.le_refl _) h1) rfl rfl rfl (by omega) (Nat.le_of_ble_eq_true rfl) ?_
          refine j_iload_n (pc := 46) hX dX6_usesOf_46 rfl rfl ?_
          obtain ⟨r12, h1, h⟩ := ob_some h
          refine k_callVI (pc := 47) (st := []) hX ln_6_77 dX6_usesOf_47 (i0 _ _ _ _ _ h1) rfl rfl rfl hde (Nat.le_of_ble_eq_true rfl) ?_
          replace h := Option.some.inj h
          subst h
          exact j_iret (pc := 50) hX hE rfl rfl dX6_usesOf_50 (Nat.le_refl 0) (Nat.le_refl 0) ⟨rfl, rfl, rfl⟩
    · replace h := ite_t z h
      refine j_iconst (pc := 20) (v := (1 : Int32)) hX dX6_usesOf_20 (by decide) ?_
      replace h := Option.some.inj h
      subst h
      exact j_iret (pc := 21) hX hE rfl rfl dX6_usesOf_21 (Nat.le_refl 0) (Nat.le_refl 0) ⟨rfl, rfl, rfl⟩
  · replace h := ite_t z h
    refine j_iconst (pc := 9) (v := (0 : Int32)) hX dX6_usesOf_9 (by decide) ?_
    replace h := Option.some.inj h
    subst h
    exact j_iret (pc := 10) hX hE rfl rfl dX6_usesOf_10 (Nat.le_refl 0) (Nat.le_refl 0) ⟨rfl, rfl, rfl⟩

set_option maxHeartbeats 4000000 in
set_option maxRecDepth 100000 in
theorem tg_xTerms_usesOf {l : Launch} {D : va_G} {G : Nat → ClassId} : ∀ f : Nat, (∀ (c r : jS) (a1 : Int32) (a2 : Int32) (vE : Int32), xTerms_usesOf f c a1 a2 = some vE → jC l D G (f + 3) M_xTerms_usesOf [.ref 5, .int a1, .int a2] (jmix c r) (some (.int vE)) (jmix c r)) := by
  intro f
  induction f with
  | zero =>
    exact fun _ _ _ _ _ h => (by cases h)
  | succ f ih =>
    have i0 := ih
    exact fun _ _ _ _ _ h => tb_xTerms_usesOf (e := f + 3) i0 (by omega) (by omega) h

theorem t_xTerms_usesOf {l : Launch} {D : va_G} {G : Nat → ClassId} {c r : jS} {a1 : Int32} {a2 : Int32} {vE : Int32} (h : xTerms_usesOf 130 c a1 a2 = some vE) : jC l D G 133 M_xTerms_usesOf [.ref 5, .int a1, .int a2] (jmix c r) (some (.int vE)) (jmix c r) := (tg_xTerms_usesOf 130) _ _ _ _ _ h

set_option maxHeartbeats 4000000 in
set_option maxRecDepth 100000 in
theorem t_xTypist_setDeclared {l : Launch} {D : va_G} {G : Nat → ClassId} {d : Nat} (hdp : 1 ≤ d) {c r : jS} {a1 : Int32} {a2 : Int32} {cE : jS} (h : xTypist_setDeclared c a1 a2 = some ((), cE)) : jC l D G d M_xTypist_setDeclared [.ref 17, .int a1, .int a2] (jmix c r) none (jmix cE r) := by
  refine jM_of rfl (Nat.le_of_ble_eq_true rfl) ?_
  intro X hl hD hG _ _ hX hE _
  subst hl hD hG
  unfold xTypist_setDeclared at h
  show J X 0 0 jN (jE (jmix c r)) [(0, .ref 17), (1, .int a1), (2, .int a2)] [] 0
  refine j_iload_n (pc := 0) hX dX8_setDeclared_0 rfl rfl ?_
  obtain ⟨r1, h1, h⟩ := ob_some h
  refine k_callNI (pc := 1) (st := []) hX ln_8_33 dX8_setDeclared_1 (t_xc_isLetter (d := 0) (Nat.le_refl _) h1) rfl rfl (by omega) (Nat.le_of_ble_eq_true rfl) ?_
  refine j_if_eq (pc := 4) (tgt := 14) hX dX8_setDeclared_4 (by decide) (fun z => ?_) (fun z => ?_)
  · replace h := ite_t z h
    obtain ⟨_, h⟩ := Prod.mk.inj (Option.some.inj h)
    subst h
    exact j_vret (pc := 14) hX hE dX8_setDeclared_14 (Nat.le_refl 0) (Nat.le_refl 0) ⟨rfl, rfl, rfl⟩
  · replace h := ite_f z h
    refine j_aload_n (pc := 7) hX dX8_setDeclared_7 rfl rfl ?_
    refine k_getR (pc := 8) (q := 18) hX fl_8_9 dX8_setDeclared_8 rfl rfl ?_
    refine j_iload_n (pc := 11) hX dX8_setDeclared_11 rfl rfl ?_
    refine j_iload_n (pc := 12) hX dX8_setDeclared_12 rfl rfl ?_
    obtain ⟨hg, h⟩ := gd_some h
    obtain ⟨c2, hc, h⟩ := lt_some h
    refine k_iast (pc := 13) (c' := jmix c2 r) hX dX8_setDeclared_13 rfl hg (jmix_xe rfl hc) ?_
    obtain ⟨_, h⟩ := Prod.mk.inj (Option.some.inj h)
    subst h
    exact j_vret (pc := 14) hX hE dX8_setDeclared_14 (Nat.le_refl 0) (Nat.le_refl 0) ⟨rfl, rfl, rfl⟩

set_option maxHeartbeats 4000000 in
set_option maxRecDepth 100000 in
theorem t_xTypist_latestFault {l : Launch} {D : va_G} {G : Nat → ClassId} {d : Nat} (hdp : 0 ≤ d) {c r : jS} {vE : Int32} (h : xTypist_latestFault c = some vE) : jC l D G d M_xTypist_latestFault [.ref 17] (jmix c r) (some (.int vE)) (jmix c r) := by
  refine jM_of rfl (Nat.le_of_ble_eq_true rfl) ?_
  intro X hl hD hG _ _ hX hE _
  subst hl hD hG
  unfold xTypist_latestFault at h
  show J X 0 0 jN (jE (jmix c r)) [(0, .ref 17)] [] 0
  refine j_aload_n (pc := 0) hX dX8_latestFault_0 rfl rfl ?_
  refine k_getI (pc := 1) (x := (c 17 4)) hX fl_8_26 dX8_latestFault_1 rfl rfl rfl ?_
  replace h := Option.some.inj h
  subst h
  exact j_iret (pc := 4) hX hE rfl rfl dX8_latestFault_4 (Nat.le_refl 0) (Nat.le_refl 0) ⟨rfl, rfl, rfl⟩

set_option maxHeartbeats 4000000 in
set_option maxRecDepth 100000 in
theorem t_xTypist_latestFaultAt {l : Launch} {D : va_G} {G : Nat → ClassId} {d : Nat} (hdp : 0 ≤ d) {c r : jS} {vE : Int32} (h : xTypist_latestFaultAt c = some vE) : jC l D G d M_xTypist_latestFaultAt [.ref 17] (jmix c r) (some (.int vE)) (jmix c r) := by
  refine jM_of rfl (Nat.le_of_ble_eq_true rfl) ?_
  intro X hl hD hG _ _ hX hE _
  subst hl hD hG
  unfold xTypist_latestFaultAt at h
  show J X 0 0 jN (jE (jmix c r)) [(0, .ref 17)] [] 0
  refine j_aload_n (pc := 0) hX dX8_latestFaultAt_0 rfl rfl ?_
  refine k_getI (pc := 1) (x := (c 17 5)) hX fl_8_30 dX8_latestFaultAt_1 rfl rfl rfl ?_
  replace h := Option.some.inj h
  subst h
  exact j_iret (pc := 4) hX hE rfl rfl dX8_latestFaultAt_4 (Nat.le_refl 0) (Nat.le_refl 0) ⟨rfl, rfl, rfl⟩

set_option maxHeartbeats 4000000 in
set_option maxRecDepth 100000 in
theorem t_xTypist_knownOf {l : Launch} {D : va_G} {G : Nat → ClassId} {d : Nat} (hdp : 1 ≤ d) {c r : jS} {a1 : Int32} {vE : Int32} (h : xTypist_knownOf c a1 = some vE) : jC l D G d M_xTypist_knownOf [.ref 17, .int a1] (jmix c r) (some (.int vE)) (jmix c r) := by
  refine jM_of rfl (Nat.le_of_ble_eq_true rfl) ?_
  intro X hl hD hG _ _ hX hE _
  subst hl hD hG
  unfold xTypist_knownOf at h
  show J X 0 0 jN (jE (jmix c r)) [(0, .ref 17), (1, .int a1)] [] 0
  refine j_iload_n (pc := 0) hX dX8_knownOf_0 rfl rfl ?_
  obtain ⟨r1, h1, h⟩ := ob_some h
  refine k_callNI (pc := 1) (st := []) hX ln_8_33 dX8_knownOf_1 (t_xc_isLetter (d := 0) (Nat.le_refl _) h1) rfl rfl (by omega) (Nat.le_of_ble_eq_true rfl) ?_
  refine j_if_eq (pc := 4) (tgt := 16) hX dX8_knownOf_4 (by decide) (fun z => ?_) (fun z => ?_)
  · replace h := ite_t z h
    refine j_bipush (pc := 16) (v := (-2 : Int32)) hX dX8_knownOf_16 (by decide) ?_
    replace h := Option.some.inj h
    subst h
    exact j_iret (pc := 18) hX hE rfl rfl dX8_knownOf_18 (Nat.le_refl 0) (Nat.le_refl 0) ⟨rfl, rfl, rfl⟩
  · replace h := ite_f z h
    refine j_aload_n (pc := 7) hX dX8_knownOf_7 rfl rfl ?_
    refine k_getR (pc := 8) (q := 19) hX fl_8_15 dX8_knownOf_8 rfl rfl ?_
    refine j_iload_n (pc := 11) hX dX8_knownOf_11 rfl rfl ?_
    obtain ⟨hg, h⟩ := gd_some h
    refine k_iald (pc := 12) (x := (c 19 (a1).toNatClampNeg)) hX dX8_knownOf_12 rfl hg rfl ?_
    refine j_goto (pc := 13) (tgt := 18) hX dX8_knownOf_13 (by decide) ?_
    replace h := Option.some.inj h
    subst h
    exact j_iret (pc := 18) hX hE rfl rfl dX8_knownOf_18 (Nat.le_refl 0) (Nat.le_refl 0) ⟨rfl, rfl, rfl⟩

set_option maxHeartbeats 4000000 in
set_option maxRecDepth 100000 in
theorem t_xTypist_faulty {l : Launch} {D : va_G} {G : Nat → ClassId} {d : Nat} (hdp : 0 ≤ d) {c r : jS} {a1 : Int32} {a2 : Int32} {vE : Int32} {cE : jS} (h : xTypist_faulty c a1 a2 = some (vE, cE)) : jC l D G d M_xTypist_faulty [.ref 17, .int a1, .int a2] (jmix c r) (some (.int vE)) (jmix cE r) := by
  refine jM_of rfl (Nat.le_of_ble_eq_true rfl) ?_
  intro X hl hD hG _ _ hX hE _
  subst hl hD hG
  unfold xTypist_faulty at h
  show J X 0 0 jN (jE (jmix c r)) [(0, .ref 17), (1, .int a1), (2, .int a2)] [] 0
  refine j_aload_n (pc := 0) hX dX8_faulty_0 rfl rfl ?_
  refine j_iload_n (pc := 1) hX dX8_faulty_1 rfl rfl ?_
  obtain ⟨c1, hc, h⟩ := lt_some h
  refine k_putI (pc := 2) (c' := jmix c1 r) hX pfl_8_26 dX8_faulty_2 rfl rfl (fun _ => ⟨rfl, rfl⟩) (jmix_xe rfl hc) ?_
  refine j_aload_n (pc := 5) hX dX8_faulty_5 rfl rfl ?_
  refine j_iload_n (pc := 6) hX dX8_faulty_6 rfl rfl ?_
  obtain ⟨c2, hc, h⟩ := lt_some h
  refine k_putI (pc := 7) (c' := jmix c2 r) hX pfl_8_30 dX8_faulty_7 rfl rfl (fun _ => ⟨rfl, rfl⟩) (jmix_xe rfl hc) ?_
  refine j_bipush (pc := 10) (v := (-2 : Int32)) hX dX8_faulty_10 (by decide) ?_
  obtain ⟨h, h0⟩ := Prod.mk.inj (Option.some.inj h)
  subst h h0
  exact j_iret (pc := 12) hX hE rfl rfl dX8_faulty_12 (Nat.le_refl 0) (Nat.le_refl 0) ⟨rfl, rfl, rfl⟩

set_option maxHeartbeats 4000000 in
set_option maxRecDepth 100000 in
theorem t_xTypist_typeForName {l : Launch} {D : va_G} {G : Nat → ClassId} {d : Nat} (hdp : 2 ≤ d) {c r : jS} {a1 : Int32} {vE : Int32} {cE : jS} (h : xTypist_typeForName c a1 = some (vE, cE)) : jC l D G d M_xTypist_typeForName [.ref 17, .int a1] (jmix c r) (some (.int vE)) (jmix cE r) := by
  refine jM_of rfl (Nat.le_of_ble_eq_true rfl) ?_
  intro X hl hD hG _ _ hX hE _
  subst hl hD hG
  unfold xTypist_typeForName at h
  show J X 0 0 jN (jE (jmix c r)) [(0, .ref 17), (1, .int a1)] [] 0
  refine j_aload_n (pc := 0) hX dX8_typeForName_0 rfl rfl ?_
  refine j_aload_n (pc := 1) hX dX8_typeForName_1 rfl rfl ?_
  refine k_getR (pc := 2) (q := 5) hX fl_8_22 dX8_typeForName_2 rfl rfl ?_
  refine j_iload_n (pc := 5) hX dX8_typeForName_5 rfl rfl ?_
  obtain ⟨r1, h1, h⟩ := ob_some h
  refine k_callVI (pc := 6) (st := [.ref 17]) hX ln_8_74 dX8_typeForName_6 (t_xTerms_letterOf (d := 1) (Nat.le_refl _) h1) rfl rfl rfl (by omega) (Nat.le_of_ble_eq_true rfl) ?_
  obtain ⟨r2, h1, h⟩ := ob_some h
  refine k_callVI (pc := 9) (st := []) hX ln_8_77 dX8_typeForName_9 (t_xTypist_knownOf (d := 1) (Nat.le_refl _) h1) rfl rfl rfl (by omega) (Nat.le_of_ble_eq_true rfl) ?_
  refine j_istore_n (pc := 12) hX dX8_typeForName_12 rfl (by decide) (by decide) ?_
  refine j_iload_n (pc := 13) hX dX8_typeForName_13 rfl rfl ?_
  refine j_if_ge (pc := 14) (tgt := 26) hX dX8_typeForName_14 (by decide) (fun z => ?_) (fun z => ?_)
  · replace h := ite_t z h
    refine j_iload_n (pc := 26) hX dX8_typeForName_26 rfl rfl ?_
    obtain ⟨h, h0⟩ := Prod.mk.inj (Option.some.inj h)
    subst h h0
    exact j_iret (pc := 27) hX hE rfl rfl dX8_typeForName_27 (Nat.le_refl 0) (Nat.le_refl 0) ⟨rfl, rfl, rfl⟩
  · replace h := ite_f z h
    refine j_aload_n (pc := 17) hX dX8_typeForName_17 rfl rfl ?_
    refine j_iconst (pc := 18) (v := (1 : Int32)) hX dX8_typeForName_18 (by decide) ?_
    refine j_iload_n (pc := 19) hX dX8_typeForName_19 rfl rfl ?_
    obtain ⟨r3, c4, h1, h⟩ := bd_some h
    refine k_callVI (pc := 20) (st := []) hX ln_8_80 dX8_typeForName_20 (t_xTypist_faulty (d := 0) (Nat.le_refl _) h1) rfl rfl rfl (by omega) (Nat.le_of_ble_eq_true rfl) ?_
    refine j_goto (pc := 23) (tgt := 27) hX dX8_typeForName_23 (by decide) ?_
    obtain ⟨h, h0⟩ := Prod.mk.inj (Option.some.inj h)
    subst h h0
    exact j_iret (pc := 27) hX hE rfl rfl dX8_typeForName_27 (Nat.le_refl 0) (Nat.le_refl 0) ⟨rfl, rfl, rfl⟩

set_option maxHeartbeats 4000000 in
set_option maxRecDepth 100000 in
theorem t_xTypist_setKnown {l : Launch} {D : va_G} {G : Nat → ClassId} {d : Nat} (hdp : 1 ≤ d) {c r : jS} {a1 : Int32} {a2 : Int32} {cE : jS} (h : xTypist_setKnown c a1 a2 = some ((), cE)) : jC l D G d M_xTypist_setKnown [.ref 17, .int a1, .int a2] (jmix c r) none (jmix cE r) := by
  refine jM_of rfl (Nat.le_of_ble_eq_true rfl) ?_
  intro X hl hD hG _ _ hX hE _
  subst hl hD hG
  unfold xTypist_setKnown at h
  show J X 0 0 jN (jE (jmix c r)) [(0, .ref 17), (1, .int a1), (2, .int a2)] [] 0
  refine j_iload_n (pc := 0) hX dX8_setKnown_0 rfl rfl ?_
  obtain ⟨r1, h1, h⟩ := ob_some h
  refine k_callNI (pc := 1) (st := []) hX ln_8_33 dX8_setKnown_1 (t_xc_isLetter (d := 0) (Nat.le_refl _) h1) rfl rfl (by omega) (Nat.le_of_ble_eq_true rfl) ?_
  refine j_if_eq (pc := 4) (tgt := 14) hX dX8_setKnown_4 (by decide) (fun z => ?_) (fun z => ?_)
  · replace h := ite_t z h
    obtain ⟨_, h⟩ := Prod.mk.inj (Option.some.inj h)
    subst h
    exact j_vret (pc := 14) hX hE dX8_setKnown_14 (Nat.le_refl 0) (Nat.le_refl 0) ⟨rfl, rfl, rfl⟩
  · replace h := ite_f z h
    refine j_aload_n (pc := 7) hX dX8_setKnown_7 rfl rfl ?_
    refine k_getR (pc := 8) (q := 19) hX fl_8_15 dX8_setKnown_8 rfl rfl ?_
    refine j_iload_n (pc := 11) hX dX8_setKnown_11 rfl rfl ?_
    refine j_iload_n (pc := 12) hX dX8_setKnown_12 rfl rfl ?_
    obtain ⟨hg, h⟩ := gd_some h
    obtain ⟨c2, hc, h⟩ := lt_some h
    refine k_iast (pc := 13) (c' := jmix c2 r) hX dX8_setKnown_13 rfl hg (jmix_xe rfl hc) ?_
    obtain ⟨_, h⟩ := Prod.mk.inj (Option.some.inj h)
    subst h
    exact j_vret (pc := 14) hX hE dX8_setKnown_14 (Nat.le_refl 0) (Nat.le_refl 0) ⟨rfl, rfl, rfl⟩

