set_option maxHeartbeats 4000000 in
set_option maxRecDepth 100000 in
theorem tj_xDropper_withoutLets_P114 {X : jX} {d : Nat} {e : Nat} {F_withoutLets : jS → Int32 → Option (Int32 × jS)} (i0 : ∀ (c r : jS) (a1 : Int32) (vE : Int32) (cE : jS), F_withoutLets c a1 = some (vE, cE) → jC X.l X.D X.G e M_xDropper_withoutLets [.ref 25, .int a1] (jmix c r) (some (.int vE)) (jmix cE r)) {r : jS} {vE : Int32} {cE : jS} (hX : jOk X RX1 cX1_withoutLets 5 d) (hdp : 4 ≤ d) (hde : e + 1 ≤ d) (hE : jEnd X (some .int) 0 0 (fun r0 n0 h0 => r0 = (some (.int vE)) ∧ n0 = jN ∧ h0 = jE (jmix cE r))) : ∀ (v1 : Int32) (v2 : Int32) (v3 : Int32) (v4 : Int32) (c : jS), xDropper_withoutLets_P114 F_withoutLets v1 v2 v3 v4 c = some (vE, cE) → J X 0 0 jN (jE (jmix c r)) [(0, .ref 25), (1, .int v1), (2, .int v2), (3, .int v3), (4, .int v4)] [] 114 := by
  intro v1 v2 v3 v4 c h
  unfold xDropper_withoutLets_P114 at h
  refine j_aload_n (pc := 114) hX dX1_withoutLets_114 rfl rfl ?_
  refine k_getR (pc := 115) (q := 5) hX fl_1_9 dX1_withoutLets_115 rfl rfl ?_
  refine j_iload_n (pc := 118) hX dX1_withoutLets_118 rfl rfl ?_
  refine j_aload_n (pc := 119) hX dX1_withoutLets_119 rfl rfl ?_
  refine k_getR (pc := 120) (q := 5) hX fl_1_9 dX1_withoutLets_120 rfl rfl ?_
  refine j_iload_n (pc := 123) hX dX1_withoutLets_123 rfl rfl ?_
  obtain ⟨r12, h1, h⟩ := ob_some h
  refine k_callVI (pc := 124) (st := [.int v1, .ref 5]) hX ln_1_37 dX1_withoutLets_124 (t_xTerms_letterOf (d := 1) (Nat.le_refl _) h1) rfl rfl rfl (by omega) (Nat.le_of_ble_eq_true rfl) ?_
  refine j_iload_n (pc := 127) hX dX1_withoutLets_127 rfl rfl ?_
  refine j_iload_n (pc := 128) hX dX1_withoutLets_128 rfl rfl ?_
  refine j_iload (pc := 129) hX dX1_withoutLets_129 rfl ?_
  obtain ⟨r13, c14, h1, h⟩ := bd_some h
  refine k_callVI (pc := 131) (st := []) hX ln_1_44 dX1_withoutLets_131 (t_xTerms_withParts (d := 3) (Nat.le_refl _) h1) rfl rfl rfl (by omega) (Nat.le_of_ble_eq_true rfl) ?_
  obtain ⟨h, h0⟩ := Prod.mk.inj (Option.some.inj h)
  subst h h0
  exact j_iret (pc := 134) hX hE rfl rfl dX1_withoutLets_134 (Nat.le_refl 0) (Nat.le_refl 0) ⟨rfl, rfl, rfl⟩
set_option maxHeartbeats 4000000 in
set_option maxRecDepth 100000 in
theorem tb_xDropper_withoutLets {l : Launch} {D : va_G} {G : Nat → ClassId} {d : Nat} {e : Nat} {F_withoutLets : jS → Int32 → Option (Int32 × jS)} (i0 : ∀ (c r : jS) (a1 : Int32) (vE : Int32) (cE : jS), F_withoutLets c a1 = some (vE, cE) → jC l D G e M_xDropper_withoutLets [.ref 25, .int a1] (jmix c r) (some (.int vE)) (jmix cE r)) (hdp : 4 ≤ d) (hde : e + 1 ≤ d) {c r : jS} {a1 : Int32} {vE : Int32} {cE : jS} (h : b_xDropper_withoutLets F_withoutLets c a1 = some (vE, cE)) : jC l D G d M_xDropper_withoutLets [.ref 25, .int a1] (jmix c r) (some (.int vE)) (jmix cE r) := by
  refine jM_of rfl (Nat.le_of_ble_eq_true rfl) ?_
  intro X hl hD hG _ _ hX hE _
  subst hl hD hG
  unfold b_xDropper_withoutLets at h
  show J X 0 0 jN (jE (jmix c r)) [(0, .ref 25), (1, .int a1)] [] 0
  refine j_aload_n (pc := 0) hX dX1_withoutLets_0 rfl rfl ?_
  refine k_getR (pc := 1) (q := 5) hX fl_1_9 dX1_withoutLets_1 rfl rfl ?_
  refine j_iload_n (pc := 4) hX dX1_withoutLets_4 rfl rfl ?_
  obtain ⟨r1, h1, h⟩ := ob_some h
  refine k_callVI (pc := 5) (st := []) hX ln_1_15 dX1_withoutLets_5 (t_xTerms_has (d := 0) (Nat.le_refl _) h1) rfl rfl rfl (by omega) (Nat.le_of_ble_eq_true rfl) ?_
  refine j_if_ne (pc := 8) (tgt := 13) hX dX1_withoutLets_8 (by decide) (fun z => ?_) (fun z => ?_)
  · replace h := ite_f z h
    refine j_aload_n (pc := 13) hX dX1_withoutLets_13 rfl rfl ?_
    refine j_aload_n (pc := 14) hX dX1_withoutLets_14 rfl rfl ?_
    refine k_getR (pc := 15) (q := 5) hX fl_1_9 dX1_withoutLets_15 rfl rfl ?_
    refine j_iload_n (pc := 18) hX dX1_withoutLets_18 rfl rfl ?_
    obtain ⟨r2, h1, h⟩ := ob_some h
    refine k_callVI (pc := 19) (st := [.ref 25]) hX ln_1_21 dX1_withoutLets_19 (t_xTerms_firstOf (d := 1) (Nat.le_refl _) h1) rfl rfl rfl (by omega) (Nat.le_of_ble_eq_true rfl) ?_
    obtain ⟨r3, c4, h1, h⟩ := bd_some h
    refine k_callVI (pc := 22) (st := []) hX ln_1_25 dX1_withoutLets_22 (i0 _ _ _ _ _ h1) rfl rfl rfl hde (Nat.le_of_ble_eq_true rfl) ?_
    refine j_istore_n (pc := 25) hX dX1_withoutLets_25 rfl (by decide) (by decide) ?_
    refine j_iload_n (pc := 26) hX dX1_withoutLets_26 rfl rfl ?_
    refine j_bipush (pc := 27) (v := (-3 : Int32)) hX dX1_withoutLets_27 (by decide) ?_
    refine j_icmp_ne (pc := 29) (tgt := 35) hX dX1_withoutLets_29 (by decide) (fun z => ?_) (fun z => ?_)
    · replace h := ite_f z h
      refine j_aload_n (pc := 35) hX dX1_withoutLets_35 rfl rfl ?_
      refine j_aload_n (pc := 36) hX dX1_withoutLets_36 rfl rfl ?_
      refine k_getR (pc := 37) (q := 5) hX fl_1_9 dX1_withoutLets_37 rfl rfl ?_
      refine j_iload_n (pc := 40) hX dX1_withoutLets_40 rfl rfl ?_
      obtain ⟨r5, h1, h⟩ := ob_some h
      refine k_callVI (pc := 41) (st := [.ref 25]) hX ln_1_28 dX1_withoutLets_41 (t_xTerms_secondOf (d := 1) (Nat.le_refl _) h1) rfl rfl rfl (by omega) (Nat.le_of_ble_eq_true rfl) ?_
      obtain ⟨r6, c7, h1, h⟩ := bd_some h
      refine k_callVI (pc := 44) (st := []) hX ln_1_25 dX1_withoutLets_44 (i0 _ _ _ _ _ h1) rfl rfl rfl hde (Nat.le_of_ble_eq_true rfl) ?_
      refine j_istore_n (pc := 47) hX dX1_withoutLets_47 rfl (by decide) (by decide) ?_
      refine j_iload_n (pc := 48) hX dX1_withoutLets_48 rfl rfl ?_
      refine j_bipush (pc := 49) (v := (-3 : Int32)) hX dX1_withoutLets_49 (by decide) ?_
      refine j_icmp_ne (pc := 51) (tgt := 57) hX dX1_withoutLets_51 (by decide) (fun z => ?_) (fun z => ?_)
      · replace h := ite_f z h
        refine j_aload_n (pc := 57) hX dX1_withoutLets_57 rfl rfl ?_
        refine j_aload_n (pc := 58) hX dX1_withoutLets_58 rfl rfl ?_
        refine k_getR (pc := 59) (q := 5) hX fl_1_9 dX1_withoutLets_59 rfl rfl ?_
        refine j_iload_n (pc := 62) hX dX1_withoutLets_62 rfl rfl ?_
        obtain ⟨r8, h1, h⟩ := ob_some h
        refine k_callVI (pc := 63) (st := [.ref 25]) hX ln_1_31 dX1_withoutLets_63 (t_xTerms_thirdOf (d := 1) (Nat.le_refl _) h1) rfl rfl rfl (by omega) (Nat.le_of_ble_eq_true rfl) ?_
        obtain ⟨r9, c10, h1, h⟩ := bd_some h
        refine k_callVI (pc := 66) (st := []) hX ln_1_25 dX1_withoutLets_66 (i0 _ _ _ _ _ h1) rfl rfl rfl hde (Nat.le_of_ble_eq_true rfl) ?_
        refine j_istore (pc := 69) hX dX1_withoutLets_69 (by decide) (by decide) ?_
        refine j_iload (pc := 71) hX dX1_withoutLets_71 rfl ?_
        refine j_bipush (pc := 73) (v := (-3 : Int32)) hX dX1_withoutLets_73 (by decide) ?_
        refine j_icmp_ne (pc := 75) (tgt := 81) hX dX1_withoutLets_75 (by decide) (fun z => ?_) (fun z => ?_)
        · replace h := ite_f z h
          refine j_aload_n (pc := 81) hX dX1_withoutLets_81 rfl rfl ?_
          refine k_getR (pc := 82) (q := 5) hX fl_1_9 dX1_withoutLets_82 rfl rfl ?_
          refine j_iload_n (pc := 85) hX dX1_withoutLets_85 rfl rfl ?_
          obtain ⟨r11, h1, h⟩ := ob_some h
          refine k_callVI (pc := 86) (st := []) hX ln_1_34 dX1_withoutLets_86 (t_xTerms_kindOf (d := 1) (Nat.le_refl _) h1) rfl rfl rfl (by omega) (Nat.le_of_ble_eq_true rfl) ?_
          refine j_iconst (pc := 89) (v := (4 : Int32)) hX dX1_withoutLets_89 (by decide) ?_
          refine j_icmp_ne (pc := 90) (tgt := 114) hX dX1_withoutLets_90 (by decide) (fun z => ?_) (fun z => ?_)
          · replace h := ite_f z h
            refine j_sub (lv' := [(0, .ref 25), (1, .int a1), (2, .int r3), (3, .int r6), (4, .int r9)]) ⟨rfl, rfl, rfl, rfl, rfl, trivial⟩ ?_
            exact tj_xDropper_withoutLets_P114 i0 hX hdp hde hE _ _ _ _ _ h
          · replace h := ite_t z h
            refine j_aload_n (pc := 93) hX dX1_withoutLets_93 rfl rfl ?_
            refine k_getR (pc := 94) (q := 5) hX fl_1_9 dX1_withoutLets_94 rfl rfl ?_
            refine j_iload_n (pc := 97) hX dX1_withoutLets_97 rfl rfl ?_
            refine j_aload_n (pc := 98) hX dX1_withoutLets_98 rfl rfl ?_
            refine k_getR (pc := 99) (q := 5) hX fl_1_9 dX1_withoutLets_99 rfl rfl ?_
            refine j_iload_n (pc := 102) hX dX1_withoutLets_102 rfl rfl ?_
            obtain ⟨r15, h1, h⟩ := ob_some h
            refine k_callVI (pc := 103) (st := [.int r6, .ref 5]) hX ln_1_37 dX1_withoutLets_103 (t_xTerms_letterOf (d := 1) (Nat.le_refl _) h1) rfl rfl rfl (by omega) (Nat.le_of_ble_eq_true rfl) ?_
            obtain ⟨r16, h1, h⟩ := ob_some h
            refine k_callVI (pc := 106) (st := []) hX ln_1_40 dX1_withoutLets_106 (t_xTerms_isFree (d := 2) (Nat.le_refl _) h1) rfl rfl rfl (by omega) (Nat.le_of_ble_eq_true rfl) ?_
            refine j_if_ne (pc := 109) (tgt := 114) hX dX1_withoutLets_109 (by decide) (fun z => ?_) (fun z => ?_)
            · replace h := ite_f z h
              refine j_sub (lv' := [(0, .ref 25), (1, .int a1), (2, .int r3), (3, .int r6), (4, .int r9)]) ⟨rfl, rfl, rfl, rfl, rfl, trivial⟩ ?_
              exact tj_xDropper_withoutLets_P114 i0 hX hdp hde hE _ _ _ _ _ h
            · replace h := ite_t z h
              refine j_iload_n (pc := 112) hX dX1_withoutLets_112 rfl rfl ?_
              obtain ⟨h, h0⟩ := Prod.mk.inj (Option.some.inj h)
              subst h h0
              exact j_iret (pc := 113) hX hE rfl rfl dX1_withoutLets_113 (Nat.le_refl 0) (Nat.le_refl 0) ⟨rfl, rfl, rfl⟩
        · replace h := ite_t z h
          refine j_bipush (pc := 78) (v := (-3 : Int32)) hX dX1_withoutLets_78 (by decide) ?_
          obtain ⟨h, h0⟩ := Prod.mk.inj (Option.some.inj h)
          subst h h0
          exact j_iret (pc := 80) hX hE rfl rfl dX1_withoutLets_80 (Nat.le_refl 0) (Nat.le_refl 0) ⟨rfl, rfl, rfl⟩
      · replace h := ite_t z h
        refine j_bipush (pc := 54) (v := (-3 : Int32)) hX dX1_withoutLets_54 (by decide) ?_
        obtain ⟨h, h0⟩ := Prod.mk.inj (Option.some.inj h)
        subst h h0
        exact j_iret (pc := 56) hX hE rfl rfl dX1_withoutLets_56 (Nat.le_refl 0) (Nat.le_refl 0) ⟨rfl, rfl, rfl⟩
    · replace h := ite_t z h
      refine j_bipush (pc := 32) (v := (-3 : Int32)) hX dX1_withoutLets_32 (by decide) ?_
      obtain ⟨h, h0⟩ := Prod.mk.inj (Option.some.inj h)
      subst h h0
      exact j_iret (pc := 34) hX hE rfl rfl dX1_withoutLets_34 (Nat.le_refl 0) (Nat.le_refl 0) ⟨rfl, rfl, rfl⟩
  · replace h := ite_t z h
    refine j_iload_n (pc := 11) hX dX1_withoutLets_11 rfl rfl ?_
    obtain ⟨h, h0⟩ := Prod.mk.inj (Option.some.inj h)
    subst h h0
    exact j_iret (pc := 12) hX hE rfl rfl dX1_withoutLets_12 (Nat.le_refl 0) (Nat.le_refl 0) ⟨rfl, rfl, rfl⟩

set_option maxHeartbeats 4000000 in
set_option maxRecDepth 100000 in
theorem tg_xDropper_withoutLets {l : Launch} {D : va_G} {G : Nat → ClassId} : ∀ f : Nat, (∀ (c r : jS) (a1 : Int32) (vE : Int32) (cE : jS), xDropper_withoutLets f c a1 = some (vE, cE) → jC l D G (f + 4) M_xDropper_withoutLets [.ref 25, .int a1] (jmix c r) (some (.int vE)) (jmix cE r)) := by
  intro f
  induction f with
  | zero =>
    exact fun _ _ _ _ _ h => (by cases h)
  | succ f ih =>
    have i0 := ih
    exact fun _ _ _ _ _ h => tb_xDropper_withoutLets (e := f + 4) i0 (by omega) (by omega) h

theorem t_xDropper_withoutLets {l : Launch} {D : va_G} {G : Nat → ClassId} {c r : jS} {a1 : Int32} {vE : Int32} {cE : jS} (h : xDropper_withoutLets 130 c a1 = some (vE, cE)) : jC l D G 134 M_xDropper_withoutLets [.ref 25, .int a1] (jmix c r) (some (.int vE)) (jmix cE r) := (tg_xDropper_withoutLets 130) _ _ _ _ _ h

set_option maxHeartbeats 4000000 in
set_option maxRecDepth 100000 in
theorem t_xPrinter_printLength {l : Launch} {D : va_G} {G : Nat → ClassId} {d : Nat} (hdp : 0 ≤ d) {c r : jS} {vE : Int32} (h : xPrinter_printLength c = some vE) : jC l D G d M_xPrinter_printLength [.ref 26] (jmix c r) (some (.int vE)) (jmix c r) := by
  refine jM_of rfl (Nat.le_of_ble_eq_true rfl) ?_
  intro X hl hD hG _ _ hX hE _
  subst hl hD hG
  unfold xPrinter_printLength at h
  show J X 0 0 jN (jE (jmix c r)) [(0, .ref 26)] [] 0
  refine j_aload_n (pc := 0) hX dX2_printLength_0 rfl rfl ?_
  refine k_getI (pc := 1) (x := (c 26 3)) hX fl_2_23 dX2_printLength_1 rfl rfl rfl ?_
  replace h := Option.some.inj h
  subst h
  exact j_iret (pc := 4) hX hE rfl rfl dX2_printLength_4 (Nat.le_refl 0) (Nat.le_refl 0) ⟨rfl, rfl, rfl⟩

set_option maxHeartbeats 4000000 in
set_option maxRecDepth 100000 in
theorem t_xPrinter_byteAt {l : Launch} {D : va_G} {G : Nat → ClassId} {d : Nat} (hdp : 0 ≤ d) {c r : jS} {a1 : Int32} {vE : Int32} (h : xPrinter_byteAt c a1 = some vE) : jC l D G d M_xPrinter_byteAt [.ref 26, .int a1] (jmix c r) (some (.int vE)) (jmix c r) := by
  refine jM_of rfl (Nat.le_of_ble_eq_true rfl) ?_
  intro X hl hD hG _ _ hX hE _
  subst hl hD hG
  unfold xPrinter_byteAt at h
  show J X 0 0 jN (jE (jmix c r)) [(0, .ref 26), (1, .int a1)] [] 0
  refine j_iload_n (pc := 0) hX dX2_byteAt_0 rfl rfl ?_
  refine j_if_lt (pc := 1) (tgt := 32) hX dX2_byteAt_1 (by decide) (fun z => ?_) (fun z => ?_)
  · replace h := ite_t z h
    refine j_iconst (pc := 32) (v := (-1 : Int32)) hX dX2_byteAt_32 (by decide) ?_
    replace h := Option.some.inj h
    subst h
    exact j_iret (pc := 33) hX hE rfl rfl dX2_byteAt_33 (Nat.le_refl 0) (Nat.le_refl 0) ⟨rfl, rfl, rfl⟩
  · replace h := ite_f z h
    refine j_iload_n (pc := 4) hX dX2_byteAt_4 rfl rfl ?_
    refine j_aload_n (pc := 5) hX dX2_byteAt_5 rfl rfl ?_
    refine k_getI (pc := 6) (x := (c 26 3)) hX fl_2_23 dX2_byteAt_6 rfl rfl rfl ?_
    refine j_icmp_ge (pc := 9) (tgt := 32) hX dX2_byteAt_9 (by decide) (fun z => ?_) (fun z => ?_)
    · replace h := ite_t z h
      refine j_iconst (pc := 32) (v := (-1 : Int32)) hX dX2_byteAt_32 (by decide) ?_
      replace h := Option.some.inj h
      subst h
      exact j_iret (pc := 33) hX hE rfl rfl dX2_byteAt_33 (Nat.le_refl 0) (Nat.le_refl 0) ⟨rfl, rfl, rfl⟩
    · replace h := ite_f z h
      refine j_iload_n (pc := 12) hX dX2_byteAt_12 rfl rfl ?_
      refine j_sipush (pc := 13) (v := (4000 : Int32)) hX dX2_byteAt_13 (by decide) ?_
      refine j_icmp_ge (pc := 16) (tgt := 32) hX dX2_byteAt_16 (by decide) (fun z => ?_) (fun z => ?_)
      · replace h := ite_t z h
        refine j_iconst (pc := 32) (v := (-1 : Int32)) hX dX2_byteAt_32 (by decide) ?_
        replace h := Option.some.inj h
        subst h
        exact j_iret (pc := 33) hX hE rfl rfl dX2_byteAt_33 (Nat.le_refl 0) (Nat.le_refl 0) ⟨rfl, rfl, rfl⟩
      · replace h := ite_f z h
        refine j_aload_n (pc := 19) hX dX2_byteAt_19 rfl rfl ?_
        refine k_getR (pc := 20) (q := 27) hX fl_2_9 dX2_byteAt_20 rfl rfl ?_
        refine j_iload_n (pc := 23) hX dX2_byteAt_23 rfl rfl ?_
        obtain ⟨hg, h⟩ := gd_some h
        refine k_bald (pc := 24) (x := (c 27 (a1).toNatClampNeg)) hX dX2_byteAt_24 rfl hg rfl ?_
        refine j_sipush (pc := 25) (v := (255 : Int32)) hX dX2_byteAt_25 (by decide) ?_
        refine j_iand (pc := 28) hX dX2_byteAt_28 ?_
        refine j_goto (pc := 29) (tgt := 33) hX dX2_byteAt_29 (by decide) ?_
        replace h := Option.some.inj h
        subst h
        exact j_iret (pc := 33) hX hE rfl rfl dX2_byteAt_33 (Nat.le_refl 0) (Nat.le_refl 0) ⟨rfl, rfl, rfl⟩

set_option maxHeartbeats 4000000 in
set_option maxRecDepth 100000 in
theorem t_xPrinter_write {l : Launch} {D : va_G} {G : Nat → ClassId} {d : Nat} (hdp : 0 ≤ d) {c r : jS} {a1 : Int32} {cE : jS} (h : xPrinter_write c a1 = some ((), cE)) : jC l D G d M_xPrinter_write [.ref 26, .int a1] (jmix c r) none (jmix cE r) := by
  refine jM_of rfl (Nat.le_of_ble_eq_true rfl) ?_
  intro X hl hD hG _ _ hX hE _
  subst hl hD hG
  unfold xPrinter_write at h
  show J X 0 0 jN (jE (jmix c r)) [(0, .ref 26), (1, .int a1)] [] 0
  refine j_aload_n (pc := 0) hX dX2_write_0 rfl rfl ?_
  refine k_getI (pc := 1) (x := (c 26 3)) hX fl_2_23 dX2_write_1 rfl rfl rfl ?_
  refine j_if_lt (pc := 4) (tgt := 38) hX dX2_write_4 (by decide) (fun z => ?_) (fun z => ?_)
  · replace h := ite_t z h
    obtain ⟨_, h⟩ := Prod.mk.inj (Option.some.inj h)
    subst h
    exact j_vret (pc := 38) hX hE dX2_write_38 (Nat.le_refl 0) (Nat.le_refl 0) ⟨rfl, rfl, rfl⟩
  · replace h := ite_f z h
    refine j_aload_n (pc := 7) hX dX2_write_7 rfl rfl ?_
    refine k_getI (pc := 8) (x := (c 26 3)) hX fl_2_23 dX2_write_8 rfl rfl rfl ?_
    refine j_sipush (pc := 11) (v := (4000 : Int32)) hX dX2_write_11 (by decide) ?_
    refine j_icmp_ge (pc := 14) (tgt := 38) hX dX2_write_14 (by decide) (fun z => ?_) (fun z => ?_)
    · replace h := ite_t z h
      obtain ⟨_, h⟩ := Prod.mk.inj (Option.some.inj h)
      subst h
      exact j_vret (pc := 38) hX hE dX2_write_38 (Nat.le_refl 0) (Nat.le_refl 0) ⟨rfl, rfl, rfl⟩
    · replace h := ite_f z h
      refine j_aload_n (pc := 17) hX dX2_write_17 rfl rfl ?_
      refine k_getR (pc := 18) (q := 27) hX fl_2_9 dX2_write_18 rfl rfl ?_
      refine j_aload_n (pc := 21) hX dX2_write_21 rfl rfl ?_
      refine k_getI (pc := 22) (x := (c 26 3)) hX fl_2_23 dX2_write_22 rfl rfl rfl ?_
      refine j_iload_n (pc := 25) hX dX2_write_25 rfl rfl ?_
      refine j_i2b (pc := 26) hX dX2_write_26 ?_
      obtain ⟨hg, h⟩ := gd_some h
      obtain ⟨c1, hc, h⟩ := lt_some h
      refine k_bast (pc := 27) (c' := jmix c1 r) hX dX2_write_27 rfl hg (jmix_xe rfl hc) ?_
      refine j_aload_n (pc := 28) hX dX2_write_28 rfl rfl ?_
      refine j_dup (pc := 29) hX dX2_write_29 rfl ?_
      refine k_getI (pc := 30) (x := (c1 26 3)) hX fl_2_23 dX2_write_30 rfl rfl rfl ?_
      refine j_iconst (pc := 33) (v := (1 : Int32)) hX dX2_write_33 (by decide) ?_
      refine j_iadd (pc := 34) hX dX2_write_34 ?_
      obtain ⟨c2, hc, h⟩ := lt_some h
      refine k_putI (pc := 35) (c' := jmix c2 r) hX pfl_2_23 dX2_write_35 rfl rfl (fun _ => ⟨rfl, rfl⟩) (jmix_xe rfl hc) ?_
      obtain ⟨_, h⟩ := Prod.mk.inj (Option.some.inj h)
      subst h
      exact j_vret (pc := 38) hX hE dX2_write_38 (Nat.le_refl 0) (Nat.le_refl 0) ⟨rfl, rfl, rfl⟩

set_option maxHeartbeats 4000000 in
set_option maxRecDepth 100000 in
theorem tj_xPrinter_writeNumber_P91_41 {X : jX} {d : Nat} {r : jS} {cE : jS} (hX : jOk X RX2 cX2_writeNumber 7 d) (hdp : 1 ≤ d) (hE : jEnd X none 0 0 (fun r0 n0 h0 => r0 = none ∧ n0 = jN ∧ h0 = jE (jmix cE r))) {k_41 : Nat} (ih_41 : ∀ (v1 : Int32) (v3 : Int64) (v5 : Int32) (v6 : Int32) (c : jS), lpk (fun s : (Int32 × Int64 × Int32 × Int32 × jS) => xPrinter_writeNumber_S41 s.1 s.2.1 s.2.2.1 s.2.2.2.1 s.2.2.2.2) k_41 (v1, v3, v5, v6, c) = some ((), cE) → J X 0 0 jN (jE (jmix c r)) [(0, .ref 26), (1, .int v1), (3, .long v3), (5, .int v5), (6, .int v6)] [] 41) : ∀ (v1 : Int32) (v5 : Int32) (c : jS), lq (fun s : (Int32 × Int64 × Int32 × Int32 × jS) => xPrinter_writeNumber_S41 s.1 s.2.1 s.2.2.1 s.2.2.2.1 s.2.2.2.2) k_41 ((), cE) (xPrinter_writeNumber_P91_41 v1 v5 c) → J X 0 0 jN (jE (jmix c r)) [(0, .ref 26), (1, .int v1), (5, .int v5)] [] 91 := by
  intro v1 v5 c h
  conv at h => arg 4; unfold xPrinter_writeNumber_P91_41
  refine j_iload_n (pc := 91) hX dX2_writeNumber_91 rfl rfl ?_
  refine j_if_ge (pc := 92) (tgt := 112) hX dX2_writeNumber_92 (by decide) (fun z => ?_) (fun z => ?_)
  · replace h := lq_t z h
    replace h := lq_r h
    obtain ⟨_, h⟩ := Prod.mk.inj (Option.some.inj h)
    subst h
    exact j_vret (pc := 112) hX hE dX2_writeNumber_112 (Nat.le_refl 0) (Nat.le_refl 0) ⟨rfl, rfl, rfl⟩
  · replace h := lq_f z h
    refine j_iload (pc := 95) hX dX2_writeNumber_95 rfl ?_
    refine j_sipush (pc := 97) (v := (4000 : Int32)) hX dX2_writeNumber_97 (by decide) ?_
    refine j_icmp_ge (pc := 100) (tgt := 112) hX dX2_writeNumber_100 (by decide) (fun z => ?_) (fun z => ?_)
    · replace h := lq_t z h
      replace h := lq_r h
      obtain ⟨_, h⟩ := Prod.mk.inj (Option.some.inj h)
      subst h
      exact j_vret (pc := 112) hX hE dX2_writeNumber_112 (Nat.le_refl 0) (Nat.le_refl 0) ⟨rfl, rfl, rfl⟩
    · replace h := lq_f z h
      refine j_aload_n (pc := 103) hX dX2_writeNumber_103 rfl rfl ?_
      refine k_getR (pc := 104) (q := 27) hX fl_2_9 dX2_writeNumber_104 rfl rfl ?_
      refine j_iload (pc := 107) hX dX2_writeNumber_107 rfl ?_
      refine j_bipush (pc := 109) (v := (45 : Int32)) hX dX2_writeNumber_109 (by decide) ?_
      obtain ⟨hg, h⟩ := lq_gd h
      obtain ⟨c1, hc, h⟩ := lq_lt h
      refine k_bast (pc := 111) (c' := jmix c1 r) hX dX2_writeNumber_111 rfl hg (jmix_xe rfl hc) ?_
      replace h := lq_r h
      obtain ⟨_, h⟩ := Prod.mk.inj (Option.some.inj h)
      subst h
      exact j_vret (pc := 112) hX hE dX2_writeNumber_112 (Nat.le_refl 0) (Nat.le_refl 0) ⟨rfl, rfl, rfl⟩
set_option maxHeartbeats 4000000 in
set_option maxRecDepth 100000 in
theorem tl_xPrinter_writeNumber_L41 {X : jX} {d : Nat} {r : jS} {cE : jS} (hX : jOk X RX2 cX2_writeNumber 7 d) (hdp : 1 ≤ d) (hE : jEnd X none 0 0 (fun r0 n0 h0 => r0 = none ∧ n0 = jN ∧ h0 = jE (jmix cE r))) : ∀ (v1 : Int32) (v3 : Int64) (v5 : Int32) (v6 : Int32) (c : jS), xPrinter_writeNumber_L41 v1 v3 v5 v6 c = some ((), cE) → J X 0 0 jN (jE (jmix c r)) [(0, .ref 26), (1, .int v1), (3, .long v3), (5, .int v5), (6, .int v6)] [] 41 := by
  intro v1 v3 v5 v6 c h
  unfold xPrinter_writeNumber_L41 at h
  replace h := lp_some h
  obtain ⟨k_41, h⟩ := h
  induction k_41 generalizing v1 v3 v5 v6 c with
  | zero => cases h
  | succ k_41 ih_41 =>
    replace h : lq (fun s : (Int32 × Int64 × Int32 × Int32 × jS) => xPrinter_writeNumber_S41 s.1 s.2.1 s.2.2.1 s.2.2.2.1 s.2.2.2.2) k_41 ((), cE) (xPrinter_writeNumber_S41 v1 v3 v5 v6 c) := lpk_succ (s := (v1, v3, v5, v6, c)) h
    conv at h => arg 4; unfold xPrinter_writeNumber_S41
    refine j_iload (pc := 41) hX dX2_writeNumber_41 rfl ?_
    refine j_iload (pc := 43) hX dX2_writeNumber_43 rfl ?_
    refine j_icmp_lt (pc := 45) (tgt := 91) hX dX2_writeNumber_45 (by decide) (fun z => ?_) (fun z => ?_)
    · replace h := lq_t z h
      refine j_sub (lv' := [(0, .ref 26), (1, .int v1), (5, .int v5)]) ⟨rfl, rfl, rfl, trivial⟩ ?_
      exact tj_xPrinter_writeNumber_P91_41 hX hdp hE ih_41 _ _ _ h
    · replace h := lq_f z h
      refine j_iload (pc := 48) hX dX2_writeNumber_48 rfl ?_
      refine j_if_lt (pc := 50) (tgt := 91) hX dX2_writeNumber_50 (by decide) (fun z => ?_) (fun z => ?_)
      · replace h := lq_t z h
        refine j_sub (lv' := [(0, .ref 26), (1, .int v1), (5, .int v5)]) ⟨rfl, rfl, rfl, trivial⟩ ?_
        exact tj_xPrinter_writeNumber_P91_41 hX hdp hE ih_41 _ _ _ h
      · replace h := lq_f z h
        refine j_iload (pc := 53) hX dX2_writeNumber_53 rfl ?_
        refine j_sipush (pc := 55) (v := (4000 : Int32)) hX dX2_writeNumber_55 (by decide) ?_
        refine j_icmp_ge (pc := 58) (tgt := 91) hX dX2_writeNumber_58 (by decide) (fun z => ?_) (fun z => ?_)
        · replace h := lq_t z h
          refine j_sub (lv' := [(0, .ref 26), (1, .int v1), (5, .int v5)]) ⟨rfl, rfl, rfl, trivial⟩ ?_
          exact tj_xPrinter_writeNumber_P91_41 hX hdp hE ih_41 _ _ _ h
        · replace h := lq_f z h
          refine j_aload_n (pc := 61) hX dX2_writeNumber_61 rfl rfl ?_
          refine k_getR (pc := 62) (q := 27) hX fl_2_9 dX2_writeNumber_62 rfl rfl ?_
          refine j_iload (pc := 65) hX dX2_writeNumber_65 rfl ?_
          refine j_ldc2 (pc := 67) (v := (48 : Int64)) hX dX2_writeNumber_67 (mr_33 _ (List.mem_of_getElem? (i := 20) rfl)) ?_
          refine j_lload_n (pc := 70) hX dX2_writeNumber_70 rfl rfl ?_
          refine j_ldc2 (pc := 71) (v := (10 : Int64)) hX dX2_writeNumber_71 (mr_33 _ (List.mem_of_getElem? (i := 21) rfl)) ?_
          obtain ⟨hg, h⟩ := lq_gd h
          refine j_lrem (pc := 74) hX dX2_writeNumber_74 (nz64_ne hg) ?_
          refine j_ladd (pc := 75) hX dX2_writeNumber_75 ?_
          refine j_l2i (pc := 76) hX dX2_writeNumber_76 ?_
          refine j_i2b (pc := 77) hX dX2_writeNumber_77 ?_
          obtain ⟨hg, h⟩ := lq_gd h
          obtain ⟨c2, hc, h⟩ := lq_lt h
          refine k_bast (pc := 78) (c' := jmix c2 r) hX dX2_writeNumber_78 rfl hg (jmix_xe rfl hc) ?_
          refine j_lload_n (pc := 79) hX dX2_writeNumber_79 rfl rfl ?_
          refine j_ldc2 (pc := 80) (v := (10 : Int64)) hX dX2_writeNumber_80 (mr_33 _ (List.mem_of_getElem? (i := 21) rfl)) ?_
          obtain ⟨hg, h⟩ := lq_gd h
          refine j_ldiv (pc := 83) hX dX2_writeNumber_83 (nz64_ne hg) ?_
          refine j_lstore_n (pc := 84) hX dX2_writeNumber_84 rfl (by decide) (by decide) ?_
          refine j_iinc (pc := 85) hX dX2_writeNumber_85 rfl (v := (v6 - (1 : Int32))) (iinc_m1 _) (by decide) (by decide) ?_
          refine j_goto (pc := 88) (tgt := 41) hX dX2_writeNumber_88 (by decide) ?_
          refine j_sub (lv' := [(0, .ref 26), (1, .int v1), (3, .long (v3 / (10 : Int64))), (5, .int v5), (6, .int (v6 - (1 : Int32)))]) ⟨rfl, rfl, rfl, rfl, rfl, trivial⟩ ?_
          exact ih_41 _ _ _ _ _ (lq_l h)
set_option maxHeartbeats 4000000 in
set_option maxRecDepth 100000 in
theorem tl_xPrinter_writeNumber_L15 {X : jX} {d : Nat} {r : jS} {cE : jS} (hX : jOk X RX2 cX2_writeNumber 7 d) (hdp : 1 ≤ d) (hE : jEnd X none 0 0 (fun r0 n0 h0 => r0 = none ∧ n0 = jN ∧ h0 = jE (jmix cE r))) : ∀ (v1 : Int32) (v2 : Int32) (v3 : Int64) (v5 : Int32) (v6 : Int32) (c : jS), xPrinter_writeNumber_L15 v1 v2 v3 v5 v6 c = some ((), cE) → J X 0 0 jN (jE (jmix c r)) [(0, .ref 26), (1, .int v1), (2, .int v2), (3, .long v3), (5, .int v5), (6, .int v6)] [] 15 := by
  intro v1 v2 v3 v5 v6 c h
  unfold xPrinter_writeNumber_L15 at h
  replace h := lp_some h
  obtain ⟨k_15, h⟩ := h
  induction k_15 generalizing v1 v2 v3 v5 v6 c with
  | zero => cases h
  | succ k_15 ih_15 =>
    replace h : lq (fun s : (Int32 × Int32 × Int64 × Int32 × Int32 × jS) => xPrinter_writeNumber_S15 s.1 s.2.1 s.2.2.1 s.2.2.2.1 s.2.2.2.2.1 s.2.2.2.2.2) k_15 ((), cE) (xPrinter_writeNumber_S15 v1 v2 v3 v5 v6 c) := lpk_succ (s := (v1, v2, v3, v5, v6, c)) h
    conv at h => arg 4; unfold xPrinter_writeNumber_S15
    refine j_iload (pc := 15) hX dX2_writeNumber_15 rfl ?_
    refine j_iload_n (pc := 17) hX dX2_writeNumber_17 rfl rfl ?_
    refine j_icmp_ge (pc := 18) (tgt := 33) hX dX2_writeNumber_18 (by decide) (fun z => ?_) (fun z => ?_)
    · replace h := lq_t z h
      refine j_aload_n (pc := 33) hX dX2_writeNumber_33 rfl rfl ?_
      refine k_getI (pc := 34) (x := (c 26 3)) hX fl_2_23 dX2_writeNumber_34 rfl rfl rfl ?_
      refine j_iconst (pc := 37) (v := (1 : Int32)) hX dX2_writeNumber_37 (by decide) ?_
      refine j_isub (pc := 38) hX dX2_writeNumber_38 ?_
      refine j_istore (pc := 39) hX dX2_writeNumber_39 (by decide) (by decide) ?_
      refine j_sub (lv' := [(0, .ref 26), (1, .int v1), (3, .long v3), (5, .int v5), (6, .int ((c 26 3) - (1 : Int32)))]) ⟨rfl, rfl, rfl, rfl, rfl, trivial⟩ ?_
      exact tl_xPrinter_writeNumber_L41 hX hdp hE _ _ _ _ _ (lq_om h)
    · replace h := lq_f z h
      refine j_aload_n (pc := 21) hX dX2_writeNumber_21 rfl rfl ?_
      refine j_bipush (pc := 22) (v := (48 : Int32)) hX dX2_writeNumber_22 (by decide) ?_
      obtain ⟨_u, c3, h1, h⟩ := lq_bd h
      refine k_callVV (pc := 24) (st := []) hX ln_2_71 dX2_writeNumber_24 (t_xPrinter_write (d := 0) (Nat.le_refl _) h1) rfl rfl rfl (by omega) (Nat.le_of_ble_eq_true rfl) ?_
      refine j_iinc (pc := 27) hX dX2_writeNumber_27 rfl (v := (v6 + (1 : Int32))) rfl (by decide) (by decide) ?_
      refine j_goto (pc := 30) (tgt := 15) hX dX2_writeNumber_30 (by decide) ?_
      refine j_sub (lv' := [(0, .ref 26), (1, .int v1), (2, .int v2), (3, .long v3), (5, .int v5), (6, .int (v6 + (1 : Int32)))]) ⟨rfl, rfl, rfl, rfl, rfl, rfl, trivial⟩ ?_
      exact ih_15 _ _ _ _ _ _ (lq_l h)
set_option maxHeartbeats 4000000 in
set_option maxRecDepth 100000 in
theorem t_xPrinter_writeNumber {l : Launch} {D : va_G} {G : Nat → ClassId} {d : Nat} (hdp : 1 ≤ d) {c r : jS} {a1 : Int32} {a2 : Int32} {cE : jS} (h : xPrinter_writeNumber c a1 a2 = some ((), cE)) : jC l D G d M_xPrinter_writeNumber [.ref 26, .int a1, .int a2] (jmix c r) none (jmix cE r) := by
  refine jM_of rfl (Nat.le_of_ble_eq_true rfl) ?_
  intro X hl hD hG _ _ hX hE _
  subst hl hD hG
  unfold xPrinter_writeNumber at h
  show J X 0 0 jN (jE (jmix c r)) [(0, .ref 26), (1, .int a1), (2, .int a2)] [] 0
  refine j_iload_n (pc := 0) hX dX2_writeNumber_0 rfl rfl ?_
  refine j_i2l (pc := 1) hX dX2_writeNumber_1 ?_
  refine j_mabsl (pc := 2) hX dX2_writeNumber_2 jdk_2_65 (by omega) (Nat.le_of_ble_eq_true rfl) ?_
  refine j_lstore_n (pc := 5) hX dX2_writeNumber_5 rfl (by decide) (by decide) ?_
  refine j_aload_n (pc := 6) hX dX2_writeNumber_6 rfl rfl ?_
  refine k_getI (pc := 7) (x := (c 26 3)) hX fl_2_23 dX2_writeNumber_7 rfl rfl rfl ?_
  refine j_istore (pc := 10) hX dX2_writeNumber_10 (by decide) (by decide) ?_
  refine j_iconst (pc := 12) (v := (0 : Int32)) hX dX2_writeNumber_12 (by decide) ?_
  refine j_istore (pc := 13) hX dX2_writeNumber_13 (by decide) (by decide) ?_
  refine j_sub (lv' := [(0, .ref 26), (1, .int a1), (2, .int a2), (3, .long (if 0 < a1.toInt64 then a1.toInt64 else -a1.toInt64)), (5, .int (c 26 3)), (6, .int (0 : Int32))]) ⟨rfl, rfl, rfl, rfl, rfl, rfl, trivial⟩ ?_
  exact tl_xPrinter_writeNumber_L15 hX hdp hE _ _ _ _ _ _ h

set_option maxHeartbeats 4000000 in
set_option maxRecDepth 100000 in
theorem t_xPrinter_writeLetter {l : Launch} {D : va_G} {G : Nat → ClassId} {d : Nat} (hdp : 1 ≤ d) {c r : jS} {a1 : Int32} {cE : jS} (h : xPrinter_writeLetter c a1 = some ((), cE)) : jC l D G d M_xPrinter_writeLetter [.ref 26, .int a1] (jmix c r) none (jmix cE r) := by
  refine jM_of rfl (Nat.le_of_ble_eq_true rfl) ?_
  intro X hl hD hG _ _ hX hE _
  subst hl hD hG
  unfold xPrinter_writeLetter at h
  show J X 0 0 jN (jE (jmix c r)) [(0, .ref 26), (1, .int a1)] [] 0
  refine j_aload_n (pc := 0) hX dX2_writeLetter_0 rfl rfl ?_
  refine j_bipush (pc := 1) (v := (97 : Int32)) hX dX2_writeLetter_1 (by decide) ?_
  refine j_iload_n (pc := 3) hX dX2_writeLetter_3 rfl rfl ?_
  refine j_iadd (pc := 4) hX dX2_writeLetter_4 ?_
  obtain ⟨_u, c1, h1, h⟩ := bd_some h
  refine k_callVV (pc := 5) (st := []) hX ln_2_71 dX2_writeLetter_5 (t_xPrinter_write (d := 0) (Nat.le_refl _) h1) rfl rfl rfl (by omega) (Nat.le_of_ble_eq_true rfl) ?_
  obtain ⟨_, h⟩ := Prod.mk.inj (Option.some.inj h)
  subst h
  exact j_vret (pc := 8) hX hE dX2_writeLetter_8 (Nat.le_refl 0) (Nat.le_refl 0) ⟨rfl, rfl, rfl⟩

set_option maxHeartbeats 4000000 in
set_option maxRecDepth 100000 in
theorem t_xTypes_fromOf {l : Launch} {D : va_G} {G : Nat → ClassId} {d : Nat} (hdp : 1 ≤ d) {c r : jS} {a1 : Int32} {vE : Int32} (h : xTypes_fromOf c a1 = some vE) : jC l D G d M_xTypes_fromOf [.ref 1, .int a1] (jmix c r) (some (.int vE)) (jmix c r) := by
  refine jM_of rfl (Nat.le_of_ble_eq_true rfl) ?_
  intro X hl hD hG _ _ hX hE _
  subst hl hD hG
  unfold xTypes_fromOf at h
  show J X 0 0 jN (jE (jmix c r)) [(0, .ref 1), (1, .int a1)] [] 0
  refine j_aload_n (pc := 0) hX dX7_fromOf_0 rfl rfl ?_
  refine j_iload_n (pc := 1) hX dX7_fromOf_1 rfl rfl ?_
  obtain ⟨r1, h1, h⟩ := ob_some h
  refine k_callVI (pc := 2) (st := []) hX ln_7_25 dX7_fromOf_2 (t_xTypes_has (d := 0) (Nat.le_refl _) h1) rfl rfl rfl (by omega) (Nat.le_of_ble_eq_true rfl) ?_
  refine j_if_eq (pc := 5) (tgt := 17) hX dX7_fromOf_5 (by decide) (fun z => ?_) (fun z => ?_)
  · replace h := ite_t z h
    refine j_bipush (pc := 17) (v := (-2 : Int32)) hX dX7_fromOf_17 (by decide) ?_
    replace h := Option.some.inj h
    subst h
    exact j_iret (pc := 19) hX hE rfl rfl dX7_fromOf_19 (Nat.le_refl 0) (Nat.le_refl 0) ⟨rfl, rfl, rfl⟩
  · replace h := ite_f z h
    refine j_aload_n (pc := 8) hX dX7_fromOf_8 rfl rfl ?_
    refine k_getR (pc := 9) (q := 2) hX fl_7_9 dX7_fromOf_9 rfl rfl ?_
    refine j_iload_n (pc := 12) hX dX7_fromOf_12 rfl rfl ?_
    obtain ⟨hg, h⟩ := gd_some h
    refine k_iald (pc := 13) (x := (c 2 (a1).toNatClampNeg)) hX dX7_fromOf_13 rfl hg rfl ?_
    refine j_goto (pc := 14) (tgt := 19) hX dX7_fromOf_14 (by decide) ?_
    replace h := Option.some.inj h
    subst h
    exact j_iret (pc := 19) hX hE rfl rfl dX7_fromOf_19 (Nat.le_refl 0) (Nat.le_refl 0) ⟨rfl, rfl, rfl⟩

set_option maxHeartbeats 4000000 in
set_option maxRecDepth 100000 in
theorem t_xTypes_toOf {l : Launch} {D : va_G} {G : Nat → ClassId} {d : Nat} (hdp : 1 ≤ d) {c r : jS} {a1 : Int32} {vE : Int32} (h : xTypes_toOf c a1 = some vE) : jC l D G d M_xTypes_toOf [.ref 1, .int a1] (jmix c r) (some (.int vE)) (jmix c r) := by
  refine jM_of rfl (Nat.le_of_ble_eq_true rfl) ?_
  intro X hl hD hG _ _ hX hE _
  subst hl hD hG
  unfold xTypes_toOf at h
  show J X 0 0 jN (jE (jmix c r)) [(0, .ref 1), (1, .int a1)] [] 0
  refine j_aload_n (pc := 0) hX dX7_toOf_0 rfl rfl ?_
  refine j_iload_n (pc := 1) hX dX7_toOf_1 rfl rfl ?_
  obtain ⟨r1, h1, h⟩ := ob_some h
  refine k_callVI (pc := 2) (st := []) hX ln_7_25 dX7_toOf_2 (t_xTypes_has (d := 0) (Nat.le_refl _) h1) rfl rfl rfl (by omega) (Nat.le_of_ble_eq_true rfl) ?_
  refine j_if_eq (pc := 5) (tgt := 17) hX dX7_toOf_5 (by decide) (fun z => ?_) (fun z => ?_)
  · replace h := ite_t z h
    refine j_bipush (pc := 17) (v := (-2 : Int32)) hX dX7_toOf_17 (by decide) ?_
    replace h := Option.some.inj h
    subst h
    exact j_iret (pc := 19) hX hE rfl rfl dX7_toOf_19 (Nat.le_refl 0) (Nat.le_refl 0) ⟨rfl, rfl, rfl⟩
  · replace h := ite_f z h
    refine j_aload_n (pc := 8) hX dX7_toOf_8 rfl rfl ?_
    refine k_getR (pc := 9) (q := 3) hX fl_7_15 dX7_toOf_9 rfl rfl ?_
    refine j_iload_n (pc := 12) hX dX7_toOf_12 rfl rfl ?_
    obtain ⟨hg, h⟩ := gd_some h
    refine k_iald (pc := 13) (x := (c 3 (a1).toNatClampNeg)) hX dX7_toOf_13 rfl hg rfl ?_
    refine j_goto (pc := 14) (tgt := 19) hX dX7_toOf_14 (by decide) ?_
    replace h := Option.some.inj h
    subst h
    exact j_iret (pc := 19) hX hE rfl rfl dX7_toOf_19 (Nat.le_refl 0) (Nat.le_refl 0) ⟨rfl, rfl, rfl⟩

set_option maxHeartbeats 4000000 in
set_option maxRecDepth 100000 in
theorem tb_xPrinter_writeType {l : Launch} {D : va_G} {G : Nat → ClassId} {d : Nat} {e : Nat} {F_writeType : jS → Int32 → Option (Unit × jS)} (i0 : ∀ (c r : jS) (a1 : Int32) (cE : jS), F_writeType c a1 = some ((), cE) → jC l D G e M_xPrinter_writeType [.ref 26, .int a1] (jmix c r) none (jmix cE r)) (hdp : 2 ≤ d) (hde : e + 1 ≤ d) {c r : jS} {a1 : Int32} {cE : jS} (h : b_xPrinter_writeType F_writeType c a1 = some ((), cE)) : jC l D G d M_xPrinter_writeType [.ref 26, .int a1] (jmix c r) none (jmix cE r) := by
  refine jM_of rfl (Nat.le_of_ble_eq_true rfl) ?_
  intro X hl hD hG _ _ hX hE _
  subst hl hD hG
  unfold b_xPrinter_writeType at h
  show J X 0 0 jN (jE (jmix c r)) [(0, .ref 26), (1, .int a1)] [] 0
  refine j_iload_n (pc := 0) hX dX2_writeType_0 rfl rfl ?_
  refine j_if_le (pc := 1) (tgt := 15) hX dX2_writeType_1 (by decide) (fun z => ?_) (fun z => ?_)
  · replace h := ite_t z h
    refine j_aload_n (pc := 15) hX dX2_writeType_15 rfl rfl ?_
    refine j_bipush (pc := 16) (v := (105 : Int32)) hX dX2_writeType_16 (by decide) ?_
    obtain ⟨_u, c1, h1, h⟩ := bd_some h
    refine k_callVV (pc := 18) (st := []) hX ln_2_71 dX2_writeType_18 (t_xPrinter_write (d := 0) (Nat.le_refl _) h1) rfl rfl rfl (by omega) (Nat.le_of_ble_eq_true rfl) ?_
    obtain ⟨_, h⟩ := Prod.mk.inj (Option.some.inj h)
    subst h
    exact j_vret (pc := 21) hX hE dX2_writeType_21 (Nat.le_refl 0) (Nat.le_refl 0) ⟨rfl, rfl, rfl⟩
  · replace h := ite_f z h
    refine j_aload_n (pc := 4) hX dX2_writeType_4 rfl rfl ?_
    refine k_getR (pc := 5) (q := 1) hX fl_2_15 dX2_writeType_5 rfl rfl ?_
    refine j_iload_n (pc := 8) hX dX2_writeType_8 rfl rfl ?_
    obtain ⟨r2, h1, h⟩ := ob_some h
    refine k_callVI (pc := 9) (st := []) hX ln_2_93 dX2_writeType_9 (t_xTypes_has (d := 0) (Nat.le_refl _) h1) rfl rfl rfl (by omega) (Nat.le_of_ble_eq_true rfl) ?_
    refine j_if_ne (pc := 12) (tgt := 22) hX dX2_writeType_12 (by decide) (fun z => ?_) (fun z => ?_)
    · replace h := ite_f z h
      refine j_aload_n (pc := 22) hX dX2_writeType_22 rfl rfl ?_
      refine j_bipush (pc := 23) (v := (40 : Int32)) hX dX2_writeType_23 (by decide) ?_
      obtain ⟨_u, c3, h1, h⟩ := bd_some h
      refine k_callVV (pc := 25) (st := []) hX ln_2_71 dX2_writeType_25 (t_xPrinter_write (d := 0) (Nat.le_refl _) h1) rfl rfl rfl (by omega) (Nat.le_of_ble_eq_true rfl) ?_
      refine j_aload_n (pc := 28) hX dX2_writeType_28 rfl rfl ?_
      refine j_aload_n (pc := 29) hX dX2_writeType_29 rfl rfl ?_
      refine k_getR (pc := 30) (q := 1) hX fl_2_15 dX2_writeType_30 rfl rfl ?_
      refine j_iload_n (pc := 33) hX dX2_writeType_33 rfl rfl ?_
      obtain ⟨r4, h1, h⟩ := ob_some h
      refine k_callVI (pc := 34) (st := [.ref 26]) hX ln_2_99 dX2_writeType_34 (t_xTypes_fromOf (d := 1) (Nat.le_refl _) h1) rfl rfl rfl (by omega) (Nat.le_of_ble_eq_true rfl) ?_
      obtain ⟨_u, c5, h1, h⟩ := bd_some h
      refine k_callVV (pc := 37) (st := []) hX ln_2_81 dX2_writeType_37 (i0 _ _ _ _ h1) rfl rfl rfl hde (Nat.le_of_ble_eq_true rfl) ?_
      refine j_aload_n (pc := 40) hX dX2_writeType_40 rfl rfl ?_
      refine j_bipush (pc := 41) (v := (62 : Int32)) hX dX2_writeType_41 (by decide) ?_
      obtain ⟨_u, c6, h1, h⟩ := bd_some h
      refine k_callVV (pc := 43) (st := []) hX ln_2_71 dX2_writeType_43 (t_xPrinter_write (d := 0) (Nat.le_refl _) h1) rfl rfl rfl (by omega) (Nat.le_of_ble_eq_true rfl) ?_
      refine j_aload_n (pc := 46) hX dX2_writeType_46 rfl rfl ?_
      refine j_aload_n (pc := 47) hX dX2_writeType_47 rfl rfl ?_
      refine k_getR (pc := 48) (q := 1) hX fl_2_15 dX2_writeType_48 rfl rfl ?_
      refine j_iload_n (pc := 51) hX dX2_writeType_51 rfl rfl ?_
      obtain ⟨r7, h1, h⟩ := ob_some h
      refine k_callVI (pc := 52) (st := [.ref 26]) hX ln_2_102 dX2_writeType_52 (t_xTypes_toOf (d := 1) (Nat.le_refl _) h1) rfl rfl rfl (by omega) (Nat.le_of_ble_eq_true rfl) ?_
      obtain ⟨_u, c8, h1, h⟩ := bd_some h
      refine k_callVV (pc := 55) (st := []) hX ln_2_81 dX2_writeType_55 (i0 _ _ _ _ h1) rfl rfl rfl hde (Nat.le_of_ble_eq_true rfl) ?_
      refine j_aload_n (pc := 58) hX dX2_writeType_58 rfl rfl ?_
      refine j_bipush (pc := 59) (v := (41 : Int32)) hX dX2_writeType_59 (by decide) ?_
      obtain ⟨_u, c9, h1, h⟩ := bd_some h
      refine k_callVV (pc := 61) (st := []) hX ln_2_71 dX2_writeType_61 (t_xPrinter_write (d := 0) (Nat.le_refl _) h1) rfl rfl rfl (by omega) (Nat.le_of_ble_eq_true rfl) ?_
      obtain ⟨_, h⟩ := Prod.mk.inj (Option.some.inj h)
      subst h
      exact j_vret (pc := 64) hX hE dX2_writeType_64 (Nat.le_refl 0) (Nat.le_refl 0) ⟨rfl, rfl, rfl⟩
    · replace h := ite_t z h
      refine j_aload_n (pc := 15) hX dX2_writeType_15 rfl rfl ?_
      refine j_bipush (pc := 16) (v := (105 : Int32)) hX dX2_writeType_16 (by decide) ?_
      obtain ⟨_u, c10, h1, h⟩ := bd_some h
      refine k_callVV (pc := 18) (st := []) hX ln_2_71 dX2_writeType_18 (t_xPrinter_write (d := 0) (Nat.le_refl _) h1) rfl rfl rfl (by omega) (Nat.le_of_ble_eq_true rfl) ?_
      obtain ⟨_, h⟩ := Prod.mk.inj (Option.some.inj h)
      subst h
      exact j_vret (pc := 21) hX hE dX2_writeType_21 (Nat.le_refl 0) (Nat.le_refl 0) ⟨rfl, rfl, rfl⟩

set_option maxHeartbeats 4000000 in
set_option maxRecDepth 100000 in
theorem tg_xPrinter_writeType {l : Launch} {D : va_G} {G : Nat → ClassId} : ∀ f : Nat, (∀ (c r : jS) (a1 : Int32) (cE : jS), xPrinter_writeType f c a1 = some ((), cE) → jC l D G (f + 2) M_xPrinter_writeType [.ref 26, .int a1] (jmix c r) none (jmix cE r)) := by
  intro f
  induction f with
  | zero =>
    exact fun _ _ _ _ h => (by cases h)
  | succ f ih =>
    have i0 := ih
    exact fun _ _ _ _ h => tb_xPrinter_writeType (e := f + 2) i0 (by omega) (by omega) h

theorem t_xPrinter_writeType {l : Launch} {D : va_G} {G : Nat → ClassId} {c r : jS} {a1 : Int32} {cE : jS} (h : xPrinter_writeType 130 c a1 = some ((), cE)) : jC l D G 132 M_xPrinter_writeType [.ref 26, .int a1] (jmix c r) none (jmix cE r) := (tg_xPrinter_writeType 130) _ _ _ _ h

set_option maxHeartbeats 4000000 in
set_option maxRecDepth 100000 in
theorem tb_xPrinter_writeTerm {l : Launch} {D : va_G} {G : Nat → ClassId} {d : Nat} {e : Nat} {F_writeTerm : jS → Int32 → Option (Unit × jS)} {F_writeFunction : jS → Int32 → Option (Unit × jS)} {F_writePair : jS → Int32 → Int32 → Option (Unit × jS)} {F_writeLet : jS → Int32 → Option (Unit × jS)} {F_writeChoice : jS → Int32 → Option (Unit × jS)} (i0 : ∀ (c r : jS) (a1 : Int32) (cE : jS), F_writeTerm c a1 = some ((), cE) → jC l D G e M_xPrinter_writeTerm [.ref 26, .int a1] (jmix c r) none (jmix cE r)) (i1 : ∀ (c r : jS) (a1 : Int32) (cE : jS), F_writeFunction c a1 = some ((), cE) → jC l D G e M_xPrinter_writeFunction [.ref 26, .int a1] (jmix c r) none (jmix cE r)) (i2 : ∀ (c r : jS) (a1 : Int32) (a2 : Int32) (cE : jS), F_writePair c a1 a2 = some ((), cE) → jC l D G e M_xPrinter_writePair [.ref 26, .int a1, .int a2] (jmix c r) none (jmix cE r)) (i3 : ∀ (c r : jS) (a1 : Int32) (cE : jS), F_writeLet c a1 = some ((), cE) → jC l D G e M_xPrinter_writeLet [.ref 26, .int a1] (jmix c r) none (jmix cE r)) (i4 : ∀ (c r : jS) (a1 : Int32) (cE : jS), F_writeChoice c a1 = some ((), cE) → jC l D G e M_xPrinter_writeChoice [.ref 26, .int a1] (jmix c r) none (jmix cE r)) (hdp : 133 ≤ d) (hde : e + 1 ≤ d) {c r : jS} {a1 : Int32} {cE : jS} (h : b_xPrinter_writeTerm F_writeTerm F_writeFunction F_writePair F_writeLet F_writeChoice c a1 = some ((), cE)) : jC l D G d M_xPrinter_writeTerm [.ref 26, .int a1] (jmix c r) none (jmix cE r) := by
  refine jM_of rfl (Nat.le_of_ble_eq_true rfl) ?_
  intro X hl hD hG _ _ hX hE _
  subst hl hD hG
  unfold b_xPrinter_writeTerm at h
  show J X 0 0 jN (jE (jmix c r)) [(0, .ref 26), (1, .int a1)] [] 0
  refine j_aload_n (pc := 0) hX dX2_writeTerm_0 rfl rfl ?_
  refine k_getR (pc := 1) (q := 5) hX fl_2_19 dX2_writeTerm_1 rfl rfl ?_
  refine j_iload_n (pc := 4) hX dX2_writeTerm_4 rfl rfl ?_
  obtain ⟨r1, h1, h⟩ := ob_some h
  refine k_callVI (pc := 5) (st := []) hX ln_2_37 dX2_writeTerm_5 (t_xTerms_kindOf (d := 1) (Nat.le_refl _) h1) rfl rfl rfl (by omega) (Nat.le_of_ble_eq_true rfl) ?_
  by_cases z0 : r1 = 0
  · replace h := ite_t z0 h
    refine j_tabEq (pc := 8) (tgt := 52) 0 hX dX2_writeTerm_8 z0 (by decide) (by decide) rfl (by decide) ?_
    refine j_aload_n (pc := 52) hX dX2_writeTerm_52 rfl rfl ?_
    refine j_aload_n (pc := 53) hX dX2_writeTerm_53 rfl rfl ?_
    refine k_getR (pc := 54) (q := 5) hX fl_2_19 dX2_writeTerm_54 rfl rfl ?_
    refine j_iload_n (pc := 57) hX dX2_writeTerm_57 rfl rfl ?_
    obtain ⟨r2, h1, h⟩ := ob_some h
    refine k_callVI (pc := 58) (st := [.ref 26]) hX ln_2_40 dX2_writeTerm_58 (t_xTerms_numberOf (d := 1) (Nat.le_refl _) h1) rfl rfl rfl (by omega) (Nat.le_of_ble_eq_true rfl) ?_
    refine j_aload_n (pc := 61) hX dX2_writeTerm_61 rfl rfl ?_
    refine k_getR (pc := 62) (q := 5) hX fl_2_19 dX2_writeTerm_62 rfl rfl ?_
    refine j_iload_n (pc := 65) hX dX2_writeTerm_65 rfl rfl ?_
    obtain ⟨r3, h1, h⟩ := ob_some h
    refine k_callVI (pc := 66) (st := [.int r2, .ref 26]) hX ln_2_27 dX2_writeTerm_66 (t_xTerms_widthOf (d := 1) (Nat.le_refl _) h1) rfl rfl rfl (by omega) (Nat.le_of_ble_eq_true rfl) ?_
    obtain ⟨_u, c4, h1, h⟩ := bd_some h
    refine k_callVV (pc := 69) (st := []) hX ln_2_43 dX2_writeTerm_69 (t_xPrinter_writeNumber (d := 1) (Nat.le_refl _) h1) rfl rfl rfl (by omega) (Nat.le_of_ble_eq_true rfl) ?_
    refine j_goto (pc := 72) (tgt := 134) hX dX2_writeTerm_72 (by decide) ?_
    obtain ⟨_, h⟩ := Prod.mk.inj (Option.some.inj h)
    subst h
    exact j_vret (pc := 134) hX hE dX2_writeTerm_134 (Nat.le_refl 0) (Nat.le_refl 0) ⟨rfl, rfl, rfl⟩
  replace h := ite_f z0 h
  by_cases z1 : r1 = 1
  · replace h := ite_t z1 h
    refine j_tabEq (pc := 8) (tgt := 75) 1 hX dX2_writeTerm_8 z1 (by decide) (by decide) rfl (by decide) ?_
    refine j_aload_n (pc := 75) hX dX2_writeTerm_75 rfl rfl ?_
    refine j_aload_n (pc := 76) hX dX2_writeTerm_76 rfl rfl ?_
    refine k_getR (pc := 77) (q := 5) hX fl_2_19 dX2_writeTerm_77 rfl rfl ?_
    refine j_iload_n (pc := 80) hX dX2_writeTerm_80 rfl rfl ?_
    obtain ⟨r5, h1, h⟩ := ob_some h
    refine k_callVI (pc := 81) (st := [.ref 26]) hX ln_2_47 dX2_writeTerm_81 (t_xTerms_letterOf (d := 1) (Nat.le_refl _) h1) rfl rfl rfl (by omega) (Nat.le_of_ble_eq_true rfl) ?_
    obtain ⟨_u, c6, h1, h⟩ := bd_some h
    refine k_callVV (pc := 84) (st := []) hX ln_2_50 dX2_writeTerm_84 (t_xPrinter_writeLetter (d := 1) (Nat.le_refl _) h1) rfl rfl rfl (by omega) (Nat.le_of_ble_eq_true rfl) ?_
    refine j_goto (pc := 87) (tgt := 134) hX dX2_writeTerm_87 (by decide) ?_
    obtain ⟨_, h⟩ := Prod.mk.inj (Option.some.inj h)
    subst h
    exact j_vret (pc := 134) hX hE dX2_writeTerm_134 (Nat.le_refl 0) (Nat.le_refl 0) ⟨rfl, rfl, rfl⟩
  replace h := ite_f z1 h
  by_cases z2 : r1 = 2
  · replace h := ite_t z2 h
    refine j_tabEq (pc := 8) (tgt := 90) 2 hX dX2_writeTerm_8 z2 (by decide) (by decide) rfl (by decide) ?_
    refine j_aload_n (pc := 90) hX dX2_writeTerm_90 rfl rfl ?_
    refine j_iload_n (pc := 91) hX dX2_writeTerm_91 rfl rfl ?_
    obtain ⟨_u, c7, h1, h⟩ := bd_some h
    refine k_callVV (pc := 92) (st := []) hX ln_2_53 dX2_writeTerm_92 (i1 _ _ _ _ h1) rfl rfl rfl hde (Nat.le_of_ble_eq_true rfl) ?_
    refine j_goto (pc := 95) (tgt := 134) hX dX2_writeTerm_95 (by decide) ?_
    obtain ⟨_, h⟩ := Prod.mk.inj (Option.some.inj h)
    subst h
    exact j_vret (pc := 134) hX hE dX2_writeTerm_134 (Nat.le_refl 0) (Nat.le_refl 0) ⟨rfl, rfl, rfl⟩
  replace h := ite_f z2 h
  by_cases z3 : r1 = 3
  · replace h := ite_t z3 h
    refine j_tabEq (pc := 8) (tgt := 98) 3 hX dX2_writeTerm_8 z3 (by decide) (by decide) rfl (by decide) ?_
    refine j_aload_n (pc := 98) hX dX2_writeTerm_98 rfl rfl ?_
    refine j_iload_n (pc := 99) hX dX2_writeTerm_99 rfl rfl ?_
    refine j_bipush (pc := 100) (v := (32 : Int32)) hX dX2_writeTerm_100 (by decide) ?_
    obtain ⟨_u, c8, h1, h⟩ := bd_some h
    refine k_callVV (pc := 102) (st := []) hX ln_2_56 dX2_writeTerm_102 (i2 _ _ _ _ _ h1) rfl rfl rfl hde (Nat.le_of_ble_eq_true rfl) ?_
    refine j_goto (pc := 105) (tgt := 134) hX dX2_writeTerm_105 (by decide) ?_
    obtain ⟨_, h⟩ := Prod.mk.inj (Option.some.inj h)
    subst h
    exact j_vret (pc := 134) hX hE dX2_writeTerm_134 (Nat.le_refl 0) (Nat.le_refl 0) ⟨rfl, rfl, rfl⟩
  replace h := ite_f z3 h
  by_cases z4 : r1 = 4
  · replace h := ite_t z4 h
    refine j_tabEq (pc := 8) (tgt := 108) 4 hX dX2_writeTerm_8 z4 (by decide) (by decide) rfl (by decide) ?_
    refine j_aload_n (pc := 108) hX dX2_writeTerm_108 rfl rfl ?_
    refine j_iload_n (pc := 109) hX dX2_writeTerm_109 rfl rfl ?_
    obtain ⟨_u, c9, h1, h⟩ := bd_some h
    refine k_callVV (pc := 110) (st := []) hX ln_2_59 dX2_writeTerm_110 (i3 _ _ _ _ h1) rfl rfl rfl hde (Nat.le_of_ble_eq_true rfl) ?_
    refine j_goto (pc := 113) (tgt := 134) hX dX2_writeTerm_113 (by decide) ?_
    obtain ⟨_, h⟩ := Prod.mk.inj (Option.some.inj h)
    subst h
    exact j_vret (pc := 134) hX hE dX2_writeTerm_134 (Nat.le_refl 0) (Nat.le_refl 0) ⟨rfl, rfl, rfl⟩
  replace h := ite_f z4 h
  by_cases z5 : r1 = 5
  · replace h := ite_t z5 h
    refine j_tabEq (pc := 8) (tgt := 116) 5 hX dX2_writeTerm_8 z5 (by decide) (by decide) rfl (by decide) ?_
    refine j_aload_n (pc := 116) hX dX2_writeTerm_116 rfl rfl ?_
    refine j_iload_n (pc := 117) hX dX2_writeTerm_117 rfl rfl ?_
    refine j_bipush (pc := 118) (v := (43 : Int32)) hX dX2_writeTerm_118 (by decide) ?_
    obtain ⟨_u, c10, h1, h⟩ := bd_some h
    refine k_callVV (pc := 120) (st := []) hX ln_2_56 dX2_writeTerm_120 (i2 _ _ _ _ _ h1) rfl rfl rfl hde (Nat.le_of_ble_eq_true rfl) ?_
    refine j_goto (pc := 123) (tgt := 134) hX dX2_writeTerm_123 (by decide) ?_
    obtain ⟨_, h⟩ := Prod.mk.inj (Option.some.inj h)
    subst h
    exact j_vret (pc := 134) hX hE dX2_writeTerm_134 (Nat.le_refl 0) (Nat.le_refl 0) ⟨rfl, rfl, rfl⟩
  replace h := ite_f z5 h
  by_cases z6 : r1 = 6
  · replace h := ite_t z6 h
    refine j_tabEq (pc := 8) (tgt := 126) 6 hX dX2_writeTerm_8 z6 (by decide) (by decide) rfl (by decide) ?_
    refine j_aload_n (pc := 126) hX dX2_writeTerm_126 rfl rfl ?_
    refine j_iload_n (pc := 127) hX dX2_writeTerm_127 rfl rfl ?_
    obtain ⟨_u, c11, h1, h⟩ := bd_some h
    refine k_callVV (pc := 128) (st := []) hX ln_2_62 dX2_writeTerm_128 (i4 _ _ _ _ h1) rfl rfl rfl hde (Nat.le_of_ble_eq_true rfl) ?_
    refine j_goto (pc := 131) (tgt := 134) hX dX2_writeTerm_131 (by decide) ?_
    obtain ⟨_, h⟩ := Prod.mk.inj (Option.some.inj h)
    subst h
    exact j_vret (pc := 134) hX hE dX2_writeTerm_134 (Nat.le_refl 0) (Nat.le_refl 0) ⟨rfl, rfl, rfl⟩
  replace h := ite_f z6 h
  refine j_tabOut (pc := 8) (tgt := 134) hX dX2_writeTerm_8 (by have yz0 := lv_neT (a := 0) z0 (by decide); have yz1 := lv_neT (a := 1) z1 (by decide); have yz2 := lv_neT (a := 2) z2 (by decide); have yz3 := lv_neT (a := 3) z3 (by decide); have yz4 := lv_neT (a := 4) z4 (by decide); have yz5 := lv_neT (a := 5) z5 (by decide); have yz6 := lv_neT (a := 6) z6 (by decide); omega) (by decide) ?_
  obtain ⟨_, h⟩ := Prod.mk.inj (Option.some.inj h)
  subst h
  exact j_vret (pc := 134) hX hE dX2_writeTerm_134 (Nat.le_refl 0) (Nat.le_refl 0) ⟨rfl, rfl, rfl⟩

set_option maxHeartbeats 4000000 in
set_option maxRecDepth 100000 in
theorem tb_xPrinter_writeFunction {l : Launch} {D : va_G} {G : Nat → ClassId} {d : Nat} {e : Nat} {F_writeTerm : jS → Int32 → Option (Unit × jS)} {F_writeFunction : jS → Int32 → Option (Unit × jS)} {F_writePair : jS → Int32 → Int32 → Option (Unit × jS)} {F_writeLet : jS → Int32 → Option (Unit × jS)} {F_writeChoice : jS → Int32 → Option (Unit × jS)} (i0 : ∀ (c r : jS) (a1 : Int32) (cE : jS), F_writeTerm c a1 = some ((), cE) → jC l D G e M_xPrinter_writeTerm [.ref 26, .int a1] (jmix c r) none (jmix cE r)) (i1 : ∀ (c r : jS) (a1 : Int32) (cE : jS), F_writeFunction c a1 = some ((), cE) → jC l D G e M_xPrinter_writeFunction [.ref 26, .int a1] (jmix c r) none (jmix cE r)) (i2 : ∀ (c r : jS) (a1 : Int32) (a2 : Int32) (cE : jS), F_writePair c a1 a2 = some ((), cE) → jC l D G e M_xPrinter_writePair [.ref 26, .int a1, .int a2] (jmix c r) none (jmix cE r)) (i3 : ∀ (c r : jS) (a1 : Int32) (cE : jS), F_writeLet c a1 = some ((), cE) → jC l D G e M_xPrinter_writeLet [.ref 26, .int a1] (jmix c r) none (jmix cE r)) (i4 : ∀ (c r : jS) (a1 : Int32) (cE : jS), F_writeChoice c a1 = some ((), cE) → jC l D G e M_xPrinter_writeChoice [.ref 26, .int a1] (jmix c r) none (jmix cE r)) (hdp : 133 ≤ d) (hde : e + 1 ≤ d) {c r : jS} {a1 : Int32} {cE : jS} (h : b_xPrinter_writeFunction F_writeTerm F_writeFunction F_writePair F_writeLet F_writeChoice c a1 = some ((), cE)) : jC l D G d M_xPrinter_writeFunction [.ref 26, .int a1] (jmix c r) none (jmix cE r) := by
  refine jM_of rfl (Nat.le_of_ble_eq_true rfl) ?_
  intro X hl hD hG _ _ hX hE _
  subst hl hD hG
  unfold b_xPrinter_writeFunction at h
  show J X 0 0 jN (jE (jmix c r)) [(0, .ref 26), (1, .int a1)] [] 0
  refine j_aload_n (pc := 0) hX dX2_writeFunction_0 rfl rfl ?_
  refine j_bipush (pc := 1) (v := (92 : Int32)) hX dX2_writeFunction_1 (by decide) ?_
  obtain ⟨_u, c1, h1, h⟩ := bd_some h
  refine k_callVV (pc := 3) (st := []) hX ln_2_71 dX2_writeFunction_3 (t_xPrinter_write (d := 0) (Nat.le_refl _) h1) rfl rfl rfl (by omega) (Nat.le_of_ble_eq_true rfl) ?_
  refine j_aload_n (pc := 6) hX dX2_writeFunction_6 rfl rfl ?_
  refine j_aload_n (pc := 7) hX dX2_writeFunction_7 rfl rfl ?_
  refine k_getR (pc := 8) (q := 5) hX fl_2_19 dX2_writeFunction_8 rfl rfl ?_
  refine j_iload_n (pc := 11) hX dX2_writeFunction_11 rfl rfl ?_
  obtain ⟨r2, h1, h⟩ := ob_some h
  refine k_callVI (pc := 12) (st := [.ref 26]) hX ln_2_47 dX2_writeFunction_12 (t_xTerms_letterOf (d := 1) (Nat.le_refl _) h1) rfl rfl rfl (by omega) (Nat.le_of_ble_eq_true rfl) ?_
  obtain ⟨_u, c3, h1, h⟩ := bd_some h
  refine k_callVV (pc := 15) (st := []) hX ln_2_50 dX2_writeFunction_15 (t_xPrinter_writeLetter (d := 1) (Nat.le_refl _) h1) rfl rfl rfl (by omega) (Nat.le_of_ble_eq_true rfl) ?_
  refine j_aload_n (pc := 18) hX dX2_writeFunction_18 rfl rfl ?_
  refine j_bipush (pc := 19) (v := (58 : Int32)) hX dX2_writeFunction_19 (by decide) ?_
  obtain ⟨_u, c4, h1, h⟩ := bd_some h
  refine k_callVV (pc := 21) (st := []) hX ln_2_71 dX2_writeFunction_21 (t_xPrinter_write (d := 0) (Nat.le_refl _) h1) rfl rfl rfl (by omega) (Nat.le_of_ble_eq_true rfl) ?_
  refine j_aload_n (pc := 24) hX dX2_writeFunction_24 rfl rfl ?_
  refine j_aload_n (pc := 25) hX dX2_writeFunction_25 rfl rfl ?_
  refine k_getR (pc := 26) (q := 5) hX fl_2_19 dX2_writeFunction_26 rfl rfl ?_
  refine j_iload_n (pc := 29) hX dX2_writeFunction_29 rfl rfl ?_
  obtain ⟨r5, h1, h⟩ := ob_some h
  refine k_callVI (pc := 30) (st := [.ref 26]) hX ln_2_78 dX2_writeFunction_30 (t_xTerms_typeOf (d := 1) (Nat.le_refl _) h1) rfl rfl rfl (by omega) (Nat.le_of_ble_eq_true rfl) ?_
  obtain ⟨_u, c6, h1, h⟩ := bd_some h
  refine k_callVV (pc := 33) (st := []) hX ln_2_81 dX2_writeFunction_33 (t_xPrinter_writeType h1) rfl rfl rfl (by omega) (Nat.le_of_ble_eq_true rfl) ?_
  refine j_aload_n (pc := 36) hX dX2_writeFunction_36 rfl rfl ?_
  refine j_bipush (pc := 37) (v := (46 : Int32)) hX dX2_writeFunction_37 (by decide) ?_
  obtain ⟨_u, c7, h1, h⟩ := bd_some h
  refine k_callVV (pc := 39) (st := []) hX ln_2_71 dX2_writeFunction_39 (t_xPrinter_write (d := 0) (Nat.le_refl _) h1) rfl rfl rfl (by omega) (Nat.le_of_ble_eq_true rfl) ?_
  refine j_aload_n (pc := 42) hX dX2_writeFunction_42 rfl rfl ?_
  refine j_aload_n (pc := 43) hX dX2_writeFunction_43 rfl rfl ?_
  refine k_getR (pc := 44) (q := 5) hX fl_2_19 dX2_writeFunction_44 rfl rfl ?_
  refine j_iload_n (pc := 47) hX dX2_writeFunction_47 rfl rfl ?_
  obtain ⟨r8, h1, h⟩ := ob_some h
  refine k_callVI (pc := 48) (st := [.ref 26]) hX ln_2_84 dX2_writeFunction_48 (t_xTerms_firstOf (d := 1) (Nat.le_refl _) h1) rfl rfl rfl (by omega) (Nat.le_of_ble_eq_true rfl) ?_
  obtain ⟨_u, c9, h1, h⟩ := bd_some h
  refine k_callVV (pc := 51) (st := []) hX ln_2_33 dX2_writeFunction_51 (i0 _ _ _ _ h1) rfl rfl rfl hde (Nat.le_of_ble_eq_true rfl) ?_
  obtain ⟨_, h⟩ := Prod.mk.inj (Option.some.inj h)
  subst h
  exact j_vret (pc := 54) hX hE dX2_writeFunction_54 (Nat.le_refl 0) (Nat.le_refl 0) ⟨rfl, rfl, rfl⟩

set_option maxHeartbeats 4000000 in
set_option maxRecDepth 100000 in
theorem tb_xPrinter_writePair {l : Launch} {D : va_G} {G : Nat → ClassId} {d : Nat} {e : Nat} {F_writeTerm : jS → Int32 → Option (Unit × jS)} {F_writeFunction : jS → Int32 → Option (Unit × jS)} {F_writePair : jS → Int32 → Int32 → Option (Unit × jS)} {F_writeLet : jS → Int32 → Option (Unit × jS)} {F_writeChoice : jS → Int32 → Option (Unit × jS)} (i0 : ∀ (c r : jS) (a1 : Int32) (cE : jS), F_writeTerm c a1 = some ((), cE) → jC l D G e M_xPrinter_writeTerm [.ref 26, .int a1] (jmix c r) none (jmix cE r)) (i1 : ∀ (c r : jS) (a1 : Int32) (cE : jS), F_writeFunction c a1 = some ((), cE) → jC l D G e M_xPrinter_writeFunction [.ref 26, .int a1] (jmix c r) none (jmix cE r)) (i2 : ∀ (c r : jS) (a1 : Int32) (a2 : Int32) (cE : jS), F_writePair c a1 a2 = some ((), cE) → jC l D G e M_xPrinter_writePair [.ref 26, .int a1, .int a2] (jmix c r) none (jmix cE r)) (i3 : ∀ (c r : jS) (a1 : Int32) (cE : jS), F_writeLet c a1 = some ((), cE) → jC l D G e M_xPrinter_writeLet [.ref 26, .int a1] (jmix c r) none (jmix cE r)) (i4 : ∀ (c r : jS) (a1 : Int32) (cE : jS), F_writeChoice c a1 = some ((), cE) → jC l D G e M_xPrinter_writeChoice [.ref 26, .int a1] (jmix c r) none (jmix cE r)) (hdp : 133 ≤ d) (hde : e + 1 ≤ d) {c r : jS} {a1 : Int32} {a2 : Int32} {cE : jS} (h : b_xPrinter_writePair F_writeTerm F_writeFunction F_writePair F_writeLet F_writeChoice c a1 a2 = some ((), cE)) : jC l D G d M_xPrinter_writePair [.ref 26, .int a1, .int a2] (jmix c r) none (jmix cE r) := by
  refine jM_of rfl (Nat.le_of_ble_eq_true rfl) ?_
  intro X hl hD hG _ _ hX hE _
  subst hl hD hG
  unfold b_xPrinter_writePair at h
  show J X 0 0 jN (jE (jmix c r)) [(0, .ref 26), (1, .int a1), (2, .int a2)] [] 0
  refine j_aload_n (pc := 0) hX dX2_writePair_0 rfl rfl ?_
  refine j_bipush (pc := 1) (v := (40 : Int32)) hX dX2_writePair_1 (by decide) ?_
  obtain ⟨_u, c1, h1, h⟩ := bd_some h
  refine k_callVV (pc := 3) (st := []) hX ln_2_71 dX2_writePair_3 (t_xPrinter_write (d := 0) (Nat.le_refl _) h1) rfl rfl rfl (by omega) (Nat.le_of_ble_eq_true rfl) ?_
  refine j_aload_n (pc := 6) hX dX2_writePair_6 rfl rfl ?_
  refine j_aload_n (pc := 7) hX dX2_writePair_7 rfl rfl ?_
  refine k_getR (pc := 8) (q := 5) hX fl_2_19 dX2_writePair_8 rfl rfl ?_
  refine j_iload_n (pc := 11) hX dX2_writePair_11 rfl rfl ?_
  obtain ⟨r2, h1, h⟩ := ob_some h
  refine k_callVI (pc := 12) (st := [.ref 26]) hX ln_2_84 dX2_writePair_12 (t_xTerms_firstOf (d := 1) (Nat.le_refl _) h1) rfl rfl rfl (by omega) (Nat.le_of_ble_eq_true rfl) ?_
  obtain ⟨_u, c3, h1, h⟩ := bd_some h
  refine k_callVV (pc := 15) (st := []) hX ln_2_33 dX2_writePair_15 (i0 _ _ _ _ h1) rfl rfl rfl hde (Nat.le_of_ble_eq_true rfl) ?_
  refine j_aload_n (pc := 18) hX dX2_writePair_18 rfl rfl ?_
  refine j_iload_n (pc := 19) hX dX2_writePair_19 rfl rfl ?_
  obtain ⟨_u, c4, h1, h⟩ := bd_some h
  refine k_callVV (pc := 20) (st := []) hX ln_2_71 dX2_writePair_20 (t_xPrinter_write (d := 0) (Nat.le_refl _) h1) rfl rfl rfl (by omega) (Nat.le_of_ble_eq_true rfl) ?_
  refine j_aload_n (pc := 23) hX dX2_writePair_23 rfl rfl ?_
  refine j_aload_n (pc := 24) hX dX2_writePair_24 rfl rfl ?_
  refine k_getR (pc := 25) (q := 5) hX fl_2_19 dX2_writePair_25 rfl rfl ?_
  refine j_iload_n (pc := 28) hX dX2_writePair_28 rfl rfl ?_
  obtain ⟨r5, h1, h⟩ := ob_some h
  refine k_callVI (pc := 29) (st := [.ref 26]) hX ln_2_87 dX2_writePair_29 (t_xTerms_secondOf (d := 1) (Nat.le_refl _) h1) rfl rfl rfl (by omega) (Nat.le_of_ble_eq_true rfl) ?_
  obtain ⟨_u, c6, h1, h⟩ := bd_some h
  refine k_callVV (pc := 32) (st := []) hX ln_2_33 dX2_writePair_32 (i0 _ _ _ _ h1) rfl rfl rfl hde (Nat.le_of_ble_eq_true rfl) ?_
  refine j_aload_n (pc := 35) hX dX2_writePair_35 rfl rfl ?_
  refine j_bipush (pc := 36) (v := (41 : Int32)) hX dX2_writePair_36 (by decide) ?_
  obtain ⟨_u, c7, h1, h⟩ := bd_some h
  refine k_callVV (pc := 38) (st := []) hX ln_2_71 dX2_writePair_38 (t_xPrinter_write (d := 0) (Nat.le_refl _) h1) rfl rfl rfl (by omega) (Nat.le_of_ble_eq_true rfl) ?_
  obtain ⟨_, h⟩ := Prod.mk.inj (Option.some.inj h)
  subst h
  exact j_vret (pc := 41) hX hE dX2_writePair_41 (Nat.le_refl 0) (Nat.le_refl 0) ⟨rfl, rfl, rfl⟩

set_option maxHeartbeats 4000000 in
set_option maxRecDepth 100000 in
theorem tb_xPrinter_writeLet {l : Launch} {D : va_G} {G : Nat → ClassId} {d : Nat} {e : Nat} {F_writeTerm : jS → Int32 → Option (Unit × jS)} {F_writeFunction : jS → Int32 → Option (Unit × jS)} {F_writePair : jS → Int32 → Int32 → Option (Unit × jS)} {F_writeLet : jS → Int32 → Option (Unit × jS)} {F_writeChoice : jS → Int32 → Option (Unit × jS)} (i0 : ∀ (c r : jS) (a1 : Int32) (cE : jS), F_writeTerm c a1 = some ((), cE) → jC l D G e M_xPrinter_writeTerm [.ref 26, .int a1] (jmix c r) none (jmix cE r)) (i1 : ∀ (c r : jS) (a1 : Int32) (cE : jS), F_writeFunction c a1 = some ((), cE) → jC l D G e M_xPrinter_writeFunction [.ref 26, .int a1] (jmix c r) none (jmix cE r)) (i2 : ∀ (c r : jS) (a1 : Int32) (a2 : Int32) (cE : jS), F_writePair c a1 a2 = some ((), cE) → jC l D G e M_xPrinter_writePair [.ref 26, .int a1, .int a2] (jmix c r) none (jmix cE r)) (i3 : ∀ (c r : jS) (a1 : Int32) (cE : jS), F_writeLet c a1 = some ((), cE) → jC l D G e M_xPrinter_writeLet [.ref 26, .int a1] (jmix c r) none (jmix cE r)) (i4 : ∀ (c r : jS) (a1 : Int32) (cE : jS), F_writeChoice c a1 = some ((), cE) → jC l D G e M_xPrinter_writeChoice [.ref 26, .int a1] (jmix c r) none (jmix cE r)) (hdp : 133 ≤ d) (hde : e + 1 ≤ d) {c r : jS} {a1 : Int32} {cE : jS} (h : b_xPrinter_writeLet F_writeTerm F_writeFunction F_writePair F_writeLet F_writeChoice c a1 = some ((), cE)) : jC l D G d M_xPrinter_writeLet [.ref 26, .int a1] (jmix c r) none (jmix cE r) := by
  refine jM_of rfl (Nat.le_of_ble_eq_true rfl) ?_
  intro X hl hD hG _ _ hX hE _
  subst hl hD hG
  unfold b_xPrinter_writeLet at h
  show J X 0 0 jN (jE (jmix c r)) [(0, .ref 26), (1, .int a1)] [] 0
  refine j_aload_n (pc := 0) hX dX2_writeLet_0 rfl rfl ?_
  refine j_bipush (pc := 1) (v := (91 : Int32)) hX dX2_writeLet_1 (by decide) ?_
  obtain ⟨_u, c1, h1, h⟩ := bd_some h
  refine k_callVV (pc := 3) (st := []) hX ln_2_71 dX2_writeLet_3 (t_xPrinter_write (d := 0) (Nat.le_refl _) h1) rfl rfl rfl (by omega) (Nat.le_of_ble_eq_true rfl) ?_
  refine j_aload_n (pc := 6) hX dX2_writeLet_6 rfl rfl ?_
  refine j_aload_n (pc := 7) hX dX2_writeLet_7 rfl rfl ?_
  refine k_getR (pc := 8) (q := 5) hX fl_2_19 dX2_writeLet_8 rfl rfl ?_
  refine j_iload_n (pc := 11) hX dX2_writeLet_11 rfl rfl ?_
  obtain ⟨r2, h1, h⟩ := ob_some h
  refine k_callVI (pc := 12) (st := [.ref 26]) hX ln_2_47 dX2_writeLet_12 (t_xTerms_letterOf (d := 1) (Nat.le_refl _) h1) rfl rfl rfl (by omega) (Nat.le_of_ble_eq_true rfl) ?_
  obtain ⟨_u, c3, h1, h⟩ := bd_some h
  refine k_callVV (pc := 15) (st := []) hX ln_2_50 dX2_writeLet_15 (t_xPrinter_writeLetter (d := 1) (Nat.le_refl _) h1) rfl rfl rfl (by omega) (Nat.le_of_ble_eq_true rfl) ?_
  refine j_aload_n (pc := 18) hX dX2_writeLet_18 rfl rfl ?_
  refine j_bipush (pc := 19) (v := (61 : Int32)) hX dX2_writeLet_19 (by decide) ?_
  obtain ⟨_u, c4, h1, h⟩ := bd_some h
  refine k_callVV (pc := 21) (st := []) hX ln_2_71 dX2_writeLet_21 (t_xPrinter_write (d := 0) (Nat.le_refl _) h1) rfl rfl rfl (by omega) (Nat.le_of_ble_eq_true rfl) ?_
  refine j_aload_n (pc := 24) hX dX2_writeLet_24 rfl rfl ?_
  refine j_aload_n (pc := 25) hX dX2_writeLet_25 rfl rfl ?_
  refine k_getR (pc := 26) (q := 5) hX fl_2_19 dX2_writeLet_26 rfl rfl ?_
  refine j_iload_n (pc := 29) hX dX2_writeLet_29 rfl rfl ?_
  obtain ⟨r5, h1, h⟩ := ob_some h
  refine k_callVI (pc := 30) (st := [.ref 26]) hX ln_2_84 dX2_writeLet_30 (t_xTerms_firstOf (d := 1) (Nat.le_refl _) h1) rfl rfl rfl (by omega) (Nat.le_of_ble_eq_true rfl) ?_
  obtain ⟨_u, c6, h1, h⟩ := bd_some h
  refine k_callVV (pc := 33) (st := []) hX ln_2_33 dX2_writeLet_33 (i0 _ _ _ _ h1) rfl rfl rfl hde (Nat.le_of_ble_eq_true rfl) ?_
  refine j_aload_n (pc := 36) hX dX2_writeLet_36 rfl rfl ?_
  refine j_bipush (pc := 37) (v := (93 : Int32)) hX dX2_writeLet_37 (by decide) ?_
  obtain ⟨_u, c7, h1, h⟩ := bd_some h
  refine k_callVV (pc := 39) (st := []) hX ln_2_71 dX2_writeLet_39 (t_xPrinter_write (d := 0) (Nat.le_refl _) h1) rfl rfl rfl (by omega) (Nat.le_of_ble_eq_true rfl) ?_
  refine j_aload_n (pc := 42) hX dX2_writeLet_42 rfl rfl ?_
  refine j_aload_n (pc := 43) hX dX2_writeLet_43 rfl rfl ?_
  refine k_getR (pc := 44) (q := 5) hX fl_2_19 dX2_writeLet_44 rfl rfl ?_
  refine j_iload_n (pc := 47) hX dX2_writeLet_47 rfl rfl ?_
  obtain ⟨r8, h1, h⟩ := ob_some h
  refine k_callVI (pc := 48) (st := [.ref 26]) hX ln_2_87 dX2_writeLet_48 (t_xTerms_secondOf (d := 1) (Nat.le_refl _) h1) rfl rfl rfl (by omega) (Nat.le_of_ble_eq_true rfl) ?_
  obtain ⟨_u, c9, h1, h⟩ := bd_some h
  refine k_callVV (pc := 51) (st := []) hX ln_2_33 dX2_writeLet_51 (i0 _ _ _ _ h1) rfl rfl rfl hde (Nat.le_of_ble_eq_true rfl) ?_
  obtain ⟨_, h⟩ := Prod.mk.inj (Option.some.inj h)
  subst h
  exact j_vret (pc := 54) hX hE dX2_writeLet_54 (Nat.le_refl 0) (Nat.le_refl 0) ⟨rfl, rfl, rfl⟩

set_option maxHeartbeats 4000000 in
set_option maxRecDepth 100000 in
theorem tb_xPrinter_writeChoice {l : Launch} {D : va_G} {G : Nat → ClassId} {d : Nat} {e : Nat} {F_writeTerm : jS → Int32 → Option (Unit × jS)} {F_writeFunction : jS → Int32 → Option (Unit × jS)} {F_writePair : jS → Int32 → Int32 → Option (Unit × jS)} {F_writeLet : jS → Int32 → Option (Unit × jS)} {F_writeChoice : jS → Int32 → Option (Unit × jS)} (i0 : ∀ (c r : jS) (a1 : Int32) (cE : jS), F_writeTerm c a1 = some ((), cE) → jC l D G e M_xPrinter_writeTerm [.ref 26, .int a1] (jmix c r) none (jmix cE r)) (i1 : ∀ (c r : jS) (a1 : Int32) (cE : jS), F_writeFunction c a1 = some ((), cE) → jC l D G e M_xPrinter_writeFunction [.ref 26, .int a1] (jmix c r) none (jmix cE r)) (i2 : ∀ (c r : jS) (a1 : Int32) (a2 : Int32) (cE : jS), F_writePair c a1 a2 = some ((), cE) → jC l D G e M_xPrinter_writePair [.ref 26, .int a1, .int a2] (jmix c r) none (jmix cE r)) (i3 : ∀ (c r : jS) (a1 : Int32) (cE : jS), F_writeLet c a1 = some ((), cE) → jC l D G e M_xPrinter_writeLet [.ref 26, .int a1] (jmix c r) none (jmix cE r)) (i4 : ∀ (c r : jS) (a1 : Int32) (cE : jS), F_writeChoice c a1 = some ((), cE) → jC l D G e M_xPrinter_writeChoice [.ref 26, .int a1] (jmix c r) none (jmix cE r)) (hdp : 133 ≤ d) (hde : e + 1 ≤ d) {c r : jS} {a1 : Int32} {cE : jS} (h : b_xPrinter_writeChoice F_writeTerm F_writeFunction F_writePair F_writeLet F_writeChoice c a1 = some ((), cE)) : jC l D G d M_xPrinter_writeChoice [.ref 26, .int a1] (jmix c r) none (jmix cE r) := by
  refine jM_of rfl (Nat.le_of_ble_eq_true rfl) ?_
  intro X hl hD hG _ _ hX hE _
  subst hl hD hG
  unfold b_xPrinter_writeChoice at h
  show J X 0 0 jN (jE (jmix c r)) [(0, .ref 26), (1, .int a1)] [] 0
  refine j_aload_n (pc := 0) hX dX2_writeChoice_0 rfl rfl ?_
  refine j_bipush (pc := 1) (v := (123 : Int32)) hX dX2_writeChoice_1 (by decide) ?_
  obtain ⟨_u, c1, h1, h⟩ := bd_some h
  refine k_callVV (pc := 3) (st := []) hX ln_2_71 dX2_writeChoice_3 (t_xPrinter_write (d := 0) (Nat.le_refl _) h1) rfl rfl rfl (by omega) (Nat.le_of_ble_eq_true rfl) ?_
  refine j_aload_n (pc := 6) hX dX2_writeChoice_6 rfl rfl ?_
  refine j_aload_n (pc := 7) hX dX2_writeChoice_7 rfl rfl ?_
  refine k_getR (pc := 8) (q := 5) hX fl_2_19 dX2_writeChoice_8 rfl rfl ?_
  refine j_iload_n (pc := 11) hX dX2_writeChoice_11 rfl rfl ?_
  obtain ⟨r2, h1, h⟩ := ob_some h
  refine k_callVI (pc := 12) (st := [.ref 26]) hX ln_2_84 dX2_writeChoice_12 (t_xTerms_firstOf (d := 1) (Nat.le_refl _) h1) rfl rfl rfl (by omega) (Nat.le_of_ble_eq_true rfl) ?_
  obtain ⟨_u, c3, h1, h⟩ := bd_some h
  refine k_callVV (pc := 15) (st := []) hX ln_2_33 dX2_writeChoice_15 (i0 _ _ _ _ h1) rfl rfl rfl hde (Nat.le_of_ble_eq_true rfl) ?_
  refine j_aload_n (pc := 18) hX dX2_writeChoice_18 rfl rfl ?_
  refine j_bipush (pc := 19) (v := (63 : Int32)) hX dX2_writeChoice_19 (by decide) ?_
  obtain ⟨_u, c4, h1, h⟩ := bd_some h
  refine k_callVV (pc := 21) (st := []) hX ln_2_71 dX2_writeChoice_21 (t_xPrinter_write (d := 0) (Nat.le_refl _) h1) rfl rfl rfl (by omega) (Nat.le_of_ble_eq_true rfl) ?_
  refine j_aload_n (pc := 24) hX dX2_writeChoice_24 rfl rfl ?_
  refine j_aload_n (pc := 25) hX dX2_writeChoice_25 rfl rfl ?_
  refine k_getR (pc := 26) (q := 5) hX fl_2_19 dX2_writeChoice_26 rfl rfl ?_
  refine j_iload_n (pc := 29) hX dX2_writeChoice_29 rfl rfl ?_
  obtain ⟨r5, h1, h⟩ := ob_some h
  refine k_callVI (pc := 30) (st := [.ref 26]) hX ln_2_87 dX2_writeChoice_30 (t_xTerms_secondOf (d := 1) (Nat.le_refl _) h1) rfl rfl rfl (by omega) (Nat.le_of_ble_eq_true rfl) ?_
  obtain ⟨_u, c6, h1, h⟩ := bd_some h
  refine k_callVV (pc := 33) (st := []) hX ln_2_33 dX2_writeChoice_33 (i0 _ _ _ _ h1) rfl rfl rfl hde (Nat.le_of_ble_eq_true rfl) ?_
  refine j_aload_n (pc := 36) hX dX2_writeChoice_36 rfl rfl ?_
  refine j_bipush (pc := 37) (v := (58 : Int32)) hX dX2_writeChoice_37 (by decide) ?_
  obtain ⟨_u, c7, h1, h⟩ := bd_some h
  refine k_callVV (pc := 39) (st := []) hX ln_2_71 dX2_writeChoice_39 (t_xPrinter_write (d := 0) (Nat.le_refl _) h1) rfl rfl rfl (by omega) (Nat.le_of_ble_eq_true rfl) ?_
  refine j_aload_n (pc := 42) hX dX2_writeChoice_42 rfl rfl ?_
  refine j_aload_n (pc := 43) hX dX2_writeChoice_43 rfl rfl ?_
  refine k_getR (pc := 44) (q := 5) hX fl_2_19 dX2_writeChoice_44 rfl rfl ?_
  refine j_iload_n (pc := 47) hX dX2_writeChoice_47 rfl rfl ?_
  obtain ⟨r8, h1, h⟩ := ob_some h
  refine k_callVI (pc := 48) (st := [.ref 26]) hX ln_2_90 dX2_writeChoice_48 (t_xTerms_thirdOf (d := 1) (Nat.le_refl _) h1) rfl rfl rfl (by omega) (Nat.le_of_ble_eq_true rfl) ?_
  obtain ⟨_u, c9, h1, h⟩ := bd_some h
  refine k_callVV (pc := 51) (st := []) hX ln_2_33 dX2_writeChoice_51 (i0 _ _ _ _ h1) rfl rfl rfl hde (Nat.le_of_ble_eq_true rfl) ?_
  refine j_aload_n (pc := 54) hX dX2_writeChoice_54 rfl rfl ?_
  refine j_bipush (pc := 55) (v := (125 : Int32)) hX dX2_writeChoice_55 (by decide) ?_
  obtain ⟨_u, c10, h1, h⟩ := bd_some h
  refine k_callVV (pc := 57) (st := []) hX ln_2_71 dX2_writeChoice_57 (t_xPrinter_write (d := 0) (Nat.le_refl _) h1) rfl rfl rfl (by omega) (Nat.le_of_ble_eq_true rfl) ?_
  obtain ⟨_, h⟩ := Prod.mk.inj (Option.some.inj h)
  subst h
  exact j_vret (pc := 60) hX hE dX2_writeChoice_60 (Nat.le_refl 0) (Nat.le_refl 0) ⟨rfl, rfl, rfl⟩

set_option maxHeartbeats 4000000 in
set_option maxRecDepth 100000 in
theorem tg_xPrinter_writeTerm {l : Launch} {D : va_G} {G : Nat → ClassId} : ∀ f : Nat, (∀ (c r : jS) (a1 : Int32) (cE : jS), xPrinter_writeTerm f c a1 = some ((), cE) → jC l D G (f + 133) M_xPrinter_writeTerm [.ref 26, .int a1] (jmix c r) none (jmix cE r)) ∧
    (∀ (c r : jS) (a1 : Int32) (cE : jS), xPrinter_writeFunction f c a1 = some ((), cE) → jC l D G (f + 133) M_xPrinter_writeFunction [.ref 26, .int a1] (jmix c r) none (jmix cE r)) ∧
    (∀ (c r : jS) (a1 : Int32) (a2 : Int32) (cE : jS), xPrinter_writePair f c a1 a2 = some ((), cE) → jC l D G (f + 133) M_xPrinter_writePair [.ref 26, .int a1, .int a2] (jmix c r) none (jmix cE r)) ∧
    (∀ (c r : jS) (a1 : Int32) (cE : jS), xPrinter_writeLet f c a1 = some ((), cE) → jC l D G (f + 133) M_xPrinter_writeLet [.ref 26, .int a1] (jmix c r) none (jmix cE r)) ∧
    (∀ (c r : jS) (a1 : Int32) (cE : jS), xPrinter_writeChoice f c a1 = some ((), cE) → jC l D G (f + 133) M_xPrinter_writeChoice [.ref 26, .int a1] (jmix c r) none (jmix cE r)) := by
  intro f
  induction f with
  | zero =>
    exact ⟨fun _ _ _ _ h => (by cases h), fun _ _ _ _ h => (by cases h), fun _ _ _ _ _ h => (by cases h), fun _ _ _ _ h => (by cases h), fun _ _ _ _ h => (by cases h)⟩
  | succ f ih =>
    obtain ⟨i0, i1, i2, i3, i4⟩ := ih
    exact ⟨fun _ _ _ _ h => tb_xPrinter_writeTerm (e := f + 133) i0 i1 i2 i3 i4 (by omega) (by omega) h,
      fun _ _ _ _ h => tb_xPrinter_writeFunction (e := f + 133) i0 i1 i2 i3 i4 (by omega) (by omega) h,
      fun _ _ _ _ _ h => tb_xPrinter_writePair (e := f + 133) i0 i1 i2 i3 i4 (by omega) (by omega) h,
      fun _ _ _ _ h => tb_xPrinter_writeLet (e := f + 133) i0 i1 i2 i3 i4 (by omega) (by omega) h,
      fun _ _ _ _ h => tb_xPrinter_writeChoice (e := f + 133) i0 i1 i2 i3 i4 (by omega) (by omega) h⟩

theorem t_xPrinter_writeTerm {l : Launch} {D : va_G} {G : Nat → ClassId} {c r : jS} {a1 : Int32} {cE : jS} (h : xPrinter_writeTerm 130 c a1 = some ((), cE)) : jC l D G 263 M_xPrinter_writeTerm [.ref 26, .int a1] (jmix c r) none (jmix cE r) := (tg_xPrinter_writeTerm 130).1 _ _ _ _ h

theorem t_xPrinter_writeFunction {l : Launch} {D : va_G} {G : Nat → ClassId} {c r : jS} {a1 : Int32} {cE : jS} (h : xPrinter_writeFunction 130 c a1 = some ((), cE)) : jC l D G 263 M_xPrinter_writeFunction [.ref 26, .int a1] (jmix c r) none (jmix cE r) := (tg_xPrinter_writeTerm 130).2.1 _ _ _ _ h

theorem t_xPrinter_writePair {l : Launch} {D : va_G} {G : Nat → ClassId} {c r : jS} {a1 : Int32} {a2 : Int32} {cE : jS} (h : xPrinter_writePair 130 c a1 a2 = some ((), cE)) : jC l D G 263 M_xPrinter_writePair [.ref 26, .int a1, .int a2] (jmix c r) none (jmix cE r) := (tg_xPrinter_writeTerm 130).2.2.1 _ _ _ _ _ h

theorem t_xPrinter_writeLet {l : Launch} {D : va_G} {G : Nat → ClassId} {c r : jS} {a1 : Int32} {cE : jS} (h : xPrinter_writeLet 130 c a1 = some ((), cE)) : jC l D G 263 M_xPrinter_writeLet [.ref 26, .int a1] (jmix c r) none (jmix cE r) := (tg_xPrinter_writeTerm 130).2.2.2.1 _ _ _ _ h

theorem t_xPrinter_writeChoice {l : Launch} {D : va_G} {G : Nat → ClassId} {c r : jS} {a1 : Int32} {cE : jS} (h : xPrinter_writeChoice 130 c a1 = some ((), cE)) : jC l D G 263 M_xPrinter_writeChoice [.ref 26, .int a1] (jmix c r) none (jmix cE r) := (tg_xPrinter_writeTerm 130).2.2.2.2 _ _ _ _ h

set_option maxHeartbeats 4000000 in
set_option maxRecDepth 100000 in
theorem t_xPrinter_show {l : Launch} {D : va_G} {G : Nat → ClassId} {d : Nat} (hdp : 264 ≤ d) {c r : jS} {a1 : Int32} {vE : Int32} {cE : jS} (h : xPrinter_show c a1 = some (vE, cE)) : jC l D G d M_xPrinter_show [.ref 26, .int a1] (jmix c r) (some (.int vE)) (jmix cE r) := by
  refine jM_of rfl (Nat.le_of_ble_eq_true rfl) ?_
  intro X hl hD hG _ _ hX hE _
  subst hl hD hG
  unfold xPrinter_show at h
  show J X 0 0 jN (jE (jmix c r)) [(0, .ref 26), (1, .int a1)] [] 0
  refine j_aload_n (pc := 0) hX dX2_show_0 rfl rfl ?_
  refine k_getR (pc := 1) (q := 5) hX fl_2_19 dX2_show_1 rfl rfl ?_
  refine j_iload_n (pc := 4) hX dX2_show_4 rfl rfl ?_
  obtain ⟨r1, h1, h⟩ := ob_some h
  refine k_callVI (pc := 5) (st := []) hX ln_2_27 dX2_show_5 (t_xTerms_widthOf (d := 1) (Nat.le_refl _) h1) rfl rfl rfl (by omega) (Nat.le_of_ble_eq_true rfl) ?_
  refine j_sipush (pc := 8) (v := (4000 : Int32)) hX dX2_show_8 (by decide) ?_
  refine j_icmp_le (pc := 11) (tgt := 17) hX dX2_show_11 (by decide) (fun z => ?_) (fun z => ?_)
  · replace h := ite_t z h
    refine j_aload_n (pc := 17) hX dX2_show_17 rfl rfl ?_
    refine j_iconst (pc := 18) (v := (0 : Int32)) hX dX2_show_18 (by decide) ?_
    obtain ⟨c2, hc, h⟩ := lt_some h
    refine k_putI (pc := 19) (c' := jmix c2 r) hX pfl_2_23 dX2_show_19 rfl rfl (fun _ => ⟨rfl, rfl⟩) (jmix_xe rfl hc) ?_
    refine j_aload_n (pc := 22) hX dX2_show_22 rfl rfl ?_
    refine j_iload_n (pc := 23) hX dX2_show_23 rfl rfl ?_
    obtain ⟨_u, c3, h1, h⟩ := bd_some h
    refine k_callVV (pc := 24) (st := []) hX ln_2_33 dX2_show_24 (t_xPrinter_writeTerm h1) rfl rfl rfl (by omega) (Nat.le_of_ble_eq_true rfl) ?_
    refine j_aload_n (pc := 27) hX dX2_show_27 rfl rfl ?_
    refine k_getI (pc := 28) (x := (c3 26 3)) hX fl_2_23 dX2_show_28 rfl rfl rfl ?_
    obtain ⟨h, h0⟩ := Prod.mk.inj (Option.some.inj h)
    subst h h0
    exact j_iret (pc := 31) hX hE rfl rfl dX2_show_31 (Nat.le_refl 0) (Nat.le_refl 0) ⟨rfl, rfl, rfl⟩
  · replace h := ite_f z h
    refine j_bipush (pc := 14) (v := (-3 : Int32)) hX dX2_show_14 (by decide) ?_
    obtain ⟨h, h0⟩ := Prod.mk.inj (Option.some.inj h)
    subst h h0
    exact j_iret (pc := 16) hX hE rfl rfl dX2_show_16 (Nat.le_refl 0) (Nat.le_refl 0) ⟨rfl, rfl, rfl⟩

set_option maxHeartbeats 4000000 in
set_option maxRecDepth 100000 in
theorem tl_xPutter_letterFor_L17 {X : jX} {d : Nat} {c r : jS} {vE : Int32} (hX : jOk X RX3 cX3_letterFor 5 d) (hdp : 3 ≤ d) (hE : jEnd X (some .int) 0 0 (fun r0 n0 h0 => r0 = (some (.int vE)) ∧ n0 = jN ∧ h0 = jE (jmix c r))) : ∀ (v2 : Int32) (v3 : Int32) (v4 : Int32), xPutter_letterFor_L17 v2 v3 v4 c = some vE → J X 0 0 jN (jE (jmix c r)) [(0, .ref 23), (2, .int v2), (3, .int v3), (4, .int v4)] [] 17 := by
  intro v2 v3 v4 h
  unfold xPutter_letterFor_L17 at h
  replace h := lp_some h
  obtain ⟨k_17, h⟩ := h
  induction k_17 generalizing v2 v3 v4 with
  | zero => cases h
  | succ k_17 ih_17 =>
    replace h : lq (fun s : (Int32 × Int32 × Int32) => xPutter_letterFor_S17 s.1 s.2.1 s.2.2 c) k_17 vE (xPutter_letterFor_S17 v2 v3 v4 c) := lpk_succ (s := (v2, v3, v4)) h
    conv at h => arg 4; unfold xPutter_letterFor_S17
    refine j_iload (pc := 17) hX dX3_letterFor_17 rfl ?_
    refine j_bipush (pc := 19) (v := (26 : Int32)) hX dX3_letterFor_19 (by decide) ?_
    refine j_icmp_ge (pc := 21) (tgt := 59) hX dX3_letterFor_21 (by decide) (fun z => ?_) (fun z => ?_)
    · replace h := lq_t z h
      refine j_bipush (pc := 59) (v := (-3 : Int32)) hX dX3_letterFor_59 (by decide) ?_
      replace h := lq_r h
      replace h := Option.some.inj h
      subst h
      exact j_iret (pc := 61) hX hE rfl rfl dX3_letterFor_61 (Nat.le_refl 0) (Nat.le_refl 0) ⟨rfl, rfl, rfl⟩
    · replace h := lq_f z h
      refine j_aload_n (pc := 24) hX dX3_letterFor_24 rfl rfl ?_
      refine k_getR (pc := 25) (q := 5) hX fl_3_9 dX3_letterFor_25 rfl rfl ?_
      refine j_iload_n (pc := 28) hX dX3_letterFor_28 rfl rfl ?_
      refine j_iload (pc := 29) hX dX3_letterFor_29 rfl ?_
      obtain ⟨r2, h1, h⟩ := lq_ob h
      refine k_callVI (pc := 31) (st := []) hX ln_3_15 dX3_letterFor_31 (t_xTerms_isFree (d := 2) (Nat.le_refl _) h1) rfl rfl rfl (by omega) (Nat.le_of_ble_eq_true rfl) ?_
      refine j_if_ne (pc := 34) (tgt := 53) hX dX3_letterFor_34 (by decide) (fun z => ?_) (fun z => ?_)
      · replace h := lq_f z h
        refine j_iinc (pc := 53) hX dX3_letterFor_53 rfl (v := (v4 + (1 : Int32))) rfl (by decide) (by decide) ?_
        refine j_goto (pc := 56) (tgt := 17) hX dX3_letterFor_56 (by decide) ?_
        refine j_sub (lv' := [(0, .ref 23), (2, .int v2), (3, .int v3), (4, .int (v4 + (1 : Int32)))]) ⟨rfl, rfl, rfl, rfl, trivial⟩ ?_
        exact ih_17 _ _ _ (lq_l h)
      · replace h := lq_t z h
        refine j_aload_n (pc := 37) hX dX3_letterFor_37 rfl rfl ?_
        refine k_getR (pc := 38) (q := 5) hX fl_3_9 dX3_letterFor_38 rfl rfl ?_
        refine j_iload_n (pc := 41) hX dX3_letterFor_41 rfl rfl ?_
        refine j_iload (pc := 42) hX dX3_letterFor_42 rfl ?_
        obtain ⟨r3, h1, h⟩ := lq_ob h
        refine k_callVI (pc := 44) (st := []) hX ln_3_15 dX3_letterFor_44 (t_xTerms_isFree (d := 2) (Nat.le_refl _) h1) rfl rfl rfl (by omega) (Nat.le_of_ble_eq_true rfl) ?_
        refine j_if_ne (pc := 47) (tgt := 53) hX dX3_letterFor_47 (by decide) (fun z => ?_) (fun z => ?_)
        · replace h := lq_f z h
          refine j_iinc (pc := 53) hX dX3_letterFor_53 rfl (v := (v4 + (1 : Int32))) rfl (by decide) (by decide) ?_
          refine j_goto (pc := 56) (tgt := 17) hX dX3_letterFor_56 (by decide) ?_
          refine j_sub (lv' := [(0, .ref 23), (2, .int v2), (3, .int v3), (4, .int (v4 + (1 : Int32)))]) ⟨rfl, rfl, rfl, rfl, trivial⟩ ?_
          exact ih_17 _ _ _ (lq_l h)
        · replace h := lq_t z h
          refine j_iload (pc := 50) hX dX3_letterFor_50 rfl ?_
          replace h := lq_r h
          replace h := Option.some.inj h
          subst h
          exact j_iret (pc := 52) hX hE rfl rfl dX3_letterFor_52 (Nat.le_refl 0) (Nat.le_refl 0) ⟨rfl, rfl, rfl⟩
set_option maxHeartbeats 4000000 in
set_option maxRecDepth 100000 in
theorem t_xPutter_letterFor {l : Launch} {D : va_G} {G : Nat → ClassId} {d : Nat} (hdp : 3 ≤ d) {c r : jS} {a1 : Int32} {a2 : Int32} {a3 : Int32} {vE : Int32} (h : xPutter_letterFor c a1 a2 a3 = some vE) : jC l D G d M_xPutter_letterFor [.ref 23, .int a1, .int a2, .int a3] (jmix c r) (some (.int vE)) (jmix c r) := by
  refine jM_of rfl (Nat.le_of_ble_eq_true rfl) ?_
  intro X hl hD hG _ _ hX hE _
  subst hl hD hG
  unfold xPutter_letterFor at h
  show J X 0 0 jN (jE (jmix c r)) [(0, .ref 23), (1, .int a1), (2, .int a2), (3, .int a3)] [] 0
  refine j_aload_n (pc := 0) hX dX3_letterFor_0 rfl rfl ?_
  refine k_getR (pc := 1) (q := 5) hX fl_3_9 dX3_letterFor_1 rfl rfl ?_
  refine j_iload_n (pc := 4) hX dX3_letterFor_4 rfl rfl ?_
  refine j_iload_n (pc := 5) hX dX3_letterFor_5 rfl rfl ?_
  obtain ⟨r1, h1, h⟩ := ob_some h
  refine k_callVI (pc := 6) (st := []) hX ln_3_15 dX3_letterFor_6 (t_xTerms_isFree (d := 2) (Nat.le_refl _) h1) rfl rfl rfl (by omega) (Nat.le_of_ble_eq_true rfl) ?_
  refine j_if_ne (pc := 9) (tgt := 14) hX dX3_letterFor_9 (by decide) (fun z => ?_) (fun z => ?_)
  · replace h := ite_f z h
    refine j_iconst (pc := 14) (v := (0 : Int32)) hX dX3_letterFor_14 (by decide) ?_
    refine j_istore (pc := 15) hX dX3_letterFor_15 (by decide) (by decide) ?_
    refine j_sub (lv' := [(0, .ref 23), (2, .int a2), (3, .int a3), (4, .int (0 : Int32))]) ⟨rfl, rfl, rfl, rfl, trivial⟩ ?_
    exact tl_xPutter_letterFor_L17 hX hdp hE _ _ _ h
  · replace h := ite_t z h
    refine j_iload_n (pc := 12) hX dX3_letterFor_12 rfl rfl ?_
    replace h := Option.some.inj h
    subst h
    exact j_iret (pc := 13) hX hE rfl rfl dX3_letterFor_13 (Nat.le_refl 0) (Nat.le_refl 0) ⟨rfl, rfl, rfl⟩

set_option maxHeartbeats 4000000 in
set_option maxRecDepth 100000 in
theorem t_xTerms_newName {l : Launch} {D : va_G} {G : Nat → ClassId} {d : Nat} (hdp : 3 ≤ d) {c r : jS} {a1 : Int32} {vE : Int32} {cE : jS} (h : xTerms_newName c a1 = some (vE, cE)) : jC l D G d M_xTerms_newName [.ref 5, .int a1] (jmix c r) (some (.int vE)) (jmix cE r) := by
  refine jM_of rfl (Nat.le_of_ble_eq_true rfl) ?_
  intro X hl hD hG _ _ hX hE _
  subst hl hD hG
  unfold xTerms_newName at h
  show J X 0 0 jN (jE (jmix c r)) [(0, .ref 5), (1, .int a1)] [] 0
  refine j_aload_n (pc := 0) hX dX6_newName_0 rfl rfl ?_
  refine j_iconst (pc := 1) (v := (1 : Int32)) hX dX6_newName_1 (by decide) ?_
  refine j_iload_n (pc := 2) hX dX6_newName_2 rfl rfl ?_
  refine j_bipush (pc := 3) (v := (-2 : Int32)) hX dX6_newName_3 (by decide) ?_
  refine j_bipush (pc := 5) (v := (-2 : Int32)) hX dX6_newName_5 (by decide) ?_
  refine j_bipush (pc := 7) (v := (-2 : Int32)) hX dX6_newName_7 (by decide) ?_
  refine j_bipush (pc := 9) (v := (-2 : Int32)) hX dX6_newName_9 (by decide) ?_
  obtain ⟨r1, c2, h1, h⟩ := bd_some h
  refine k_callVI (pc := 11) (st := []) hX ln_6_87 dX6_newName_11 (t_xTerms_made (d := 2) (Nat.le_refl _) h1) rfl rfl rfl (by omega) (Nat.le_of_ble_eq_true rfl) ?_
  obtain ⟨h, h0⟩ := Prod.mk.inj (Option.some.inj h)
  subst h h0
  exact j_iret (pc := 14) hX hE rfl rfl dX6_newName_14 (Nat.le_refl 0) (Nat.le_refl 0) ⟨rfl, rfl, rfl⟩

set_option maxHeartbeats 4000000 in
set_option maxRecDepth 100000 in
theorem tb_xPutter_into {l : Launch} {D : va_G} {G : Nat → ClassId} {d : Nat} {e : Nat} {F_into : jS → Int32 → Int32 → Int32 → Option (Int32 × jS)} {F_intoFunction : jS → Int32 → Int32 → Int32 → Option (Int32 × jS)} {F_intoBody : jS → Int32 → Int32 → Int32 → Int32 → Int32 → Option (Int32 × jS)} {F_intoLet : jS → Int32 → Int32 → Int32 → Option (Int32 × jS)} {F_intoParts : jS → Int32 → Int32 → Int32 → Option (Int32 × jS)} (i0 : ∀ (c r : jS) (a1 : Int32) (a2 : Int32) (a3 : Int32) (vE : Int32) (cE : jS), F_into c a1 a2 a3 = some (vE, cE) → jC l D G e M_xPutter_into [.ref 23, .int a1, .int a2, .int a3] (jmix c r) (some (.int vE)) (jmix cE r)) (i1 : ∀ (c r : jS) (a1 : Int32) (a2 : Int32) (a3 : Int32) (vE : Int32) (cE : jS), F_intoFunction c a1 a2 a3 = some (vE, cE) → jC l D G e M_xPutter_intoFunction [.ref 23, .int a1, .int a2, .int a3] (jmix c r) (some (.int vE)) (jmix cE r)) (i2 : ∀ (c r : jS) (a1 : Int32) (a2 : Int32) (a3 : Int32) (a4 : Int32) (a5 : Int32) (vE : Int32) (cE : jS), F_intoBody c a1 a2 a3 a4 a5 = some (vE, cE) → jC l D G e M_xPutter_intoBody [.ref 23, .int a1, .int a2, .int a3, .int a4, .int a5] (jmix c r) (some (.int vE)) (jmix cE r)) (i3 : ∀ (c r : jS) (a1 : Int32) (a2 : Int32) (a3 : Int32) (vE : Int32) (cE : jS), F_intoLet c a1 a2 a3 = some (vE, cE) → jC l D G e M_xPutter_intoLet [.ref 23, .int a1, .int a2, .int a3] (jmix c r) (some (.int vE)) (jmix cE r)) (i4 : ∀ (c r : jS) (a1 : Int32) (a2 : Int32) (a3 : Int32) (vE : Int32) (cE : jS), F_intoParts c a1 a2 a3 = some (vE, cE) → jC l D G e M_xPutter_intoParts [.ref 23, .int a1, .int a2, .int a3] (jmix c r) (some (.int vE)) (jmix cE r)) (hdp : 4 ≤ d) (hde : e + 1 ≤ d) {c r : jS} {a1 : Int32} {a2 : Int32} {a3 : Int32} {vE : Int32} {cE : jS} (h : b_xPutter_into F_into F_intoFunction F_intoBody F_intoLet F_intoParts c a1 a2 a3 = some (vE, cE)) : jC l D G d M_xPutter_into [.ref 23, .int a1, .int a2, .int a3] (jmix c r) (some (.int vE)) (jmix cE r) := by
  refine jM_of rfl (Nat.le_of_ble_eq_true rfl) ?_
  intro X hl hD hG _ _ hX hE _
  subst hl hD hG
  unfold b_xPutter_into at h
  show J X 0 0 jN (jE (jmix c r)) [(0, .ref 23), (1, .int a1), (2, .int a2), (3, .int a3)] [] 0
  refine j_aload_n (pc := 0) hX dX3_into_0 rfl rfl ?_
  refine k_getR (pc := 1) (q := 5) hX fl_3_9 dX3_into_1 rfl rfl ?_
  refine j_iload_n (pc := 4) hX dX3_into_4 rfl rfl ?_
  refine j_iload_n (pc := 5) hX dX3_into_5 rfl rfl ?_
  obtain ⟨r1, h1, h⟩ := ob_some h
  refine k_callVI (pc := 6) (st := []) hX ln_3_15 dX3_into_6 (t_xTerms_isFree (d := 2) (Nat.le_refl _) h1) rfl rfl rfl (by omega) (Nat.le_of_ble_eq_true rfl) ?_
  refine j_if_ne (pc := 9) (tgt := 14) hX dX3_into_9 (by decide) (fun z => ?_) (fun z => ?_)
  · replace h := ite_f z h
    refine j_aload_n (pc := 14) hX dX3_into_14 rfl rfl ?_
    refine k_getR (pc := 15) (q := 5) hX fl_3_9 dX3_into_15 rfl rfl ?_
    refine j_iload_n (pc := 18) hX dX3_into_18 rfl rfl ?_
    obtain ⟨r2, h1, h⟩ := ob_some h
    refine k_callVI (pc := 19) (st := []) hX ln_3_21 dX3_into_19 (t_xTerms_kindOf (d := 1) (Nat.le_refl _) h1) rfl rfl rfl (by omega) (Nat.le_of_ble_eq_true rfl) ?_
    by_cases z1 : r2 = 1
    · replace h := ite_t z1 h
      refine j_tabEq (pc := 22) (tgt := 52) 1 hX dX3_into_22 z1 (by decide) (by decide) rfl (by decide) ?_
      refine j_iload_n (pc := 52) hX dX3_into_52 rfl rfl ?_
      obtain ⟨h, h0⟩ := Prod.mk.inj (Option.some.inj h)
      subst h h0
      exact j_iret (pc := 53) hX hE rfl rfl dX3_into_53 (Nat.le_refl 0) (Nat.le_refl 0) ⟨rfl, rfl, rfl⟩
    replace h := ite_f z1 h
    by_cases z2 : r2 = 2
    · replace h := ite_t z2 h
      refine j_tabEq (pc := 22) (tgt := 54) 2 hX dX3_into_22 z2 (by decide) (by decide) rfl (by decide) ?_
      refine j_aload_n (pc := 54) hX dX3_into_54 rfl rfl ?_
      refine j_iload_n (pc := 55) hX dX3_into_55 rfl rfl ?_
      refine j_iload_n (pc := 56) hX dX3_into_56 rfl rfl ?_
      refine j_iload_n (pc := 57) hX dX3_into_57 rfl rfl ?_
      obtain ⟨r3, c4, h1, h⟩ := bd_some h
      refine k_callVI (pc := 58) (st := []) hX ln_3_25 dX3_into_58 (i1 _ _ _ _ _ _ _ h1) rfl rfl rfl hde (Nat.le_of_ble_eq_true rfl) ?_
      obtain ⟨h, h0⟩ := Prod.mk.inj (Option.some.inj h)
      subst h h0
      exact j_iret (pc := 61) hX hE rfl rfl dX3_into_61 (Nat.le_refl 0) (Nat.le_refl 0) ⟨rfl, rfl, rfl⟩
    replace h := ite_f z2 h
    by_cases z4 : r2 = 4
    · replace h := ite_t z4 h
      refine j_tabEq (pc := 22) (tgt := 62) 4 hX dX3_into_22 z4 (by decide) (by decide) rfl (by decide) ?_
      refine j_aload_n (pc := 62) hX dX3_into_62 rfl rfl ?_
      refine j_iload_n (pc := 63) hX dX3_into_63 rfl rfl ?_
      refine j_iload_n (pc := 64) hX dX3_into_64 rfl rfl ?_
      refine j_iload_n (pc := 65) hX dX3_into_65 rfl rfl ?_
      obtain ⟨r5, c6, h1, h⟩ := bd_some h
      refine k_callVI (pc := 66) (st := []) hX ln_3_29 dX3_into_66 (i3 _ _ _ _ _ _ _ h1) rfl rfl rfl hde (Nat.le_of_ble_eq_true rfl) ?_
      obtain ⟨h, h0⟩ := Prod.mk.inj (Option.some.inj h)
      subst h h0
      exact j_iret (pc := 69) hX hE rfl rfl dX3_into_69 (Nat.le_refl 0) (Nat.le_refl 0) ⟨rfl, rfl, rfl⟩
    replace h := ite_f z4 h
    by_cases z3 : r2 = 3
    · refine j_tabEq (pc := 22) (tgt := 70) 3 hX dX3_into_22 z3 (by decide) (by decide) rfl (by decide) ?_
      refine j_aload_n (pc := 70) hX dX3_into_70 rfl rfl ?_
      refine j_iload_n (pc := 71) hX dX3_into_71 rfl rfl ?_
      refine j_iload_n (pc := 72) hX dX3_into_72 rfl rfl ?_
      refine j_iload_n (pc := 73) hX dX3_into_73 rfl rfl ?_
      obtain ⟨r7, c8, h1, h⟩ := bd_some h
      refine k_callVI (pc := 74) (st := []) hX ln_3_32 dX3_into_74 (i4 _ _ _ _ _ _ _ h1) rfl rfl rfl hde (Nat.le_of_ble_eq_true rfl) ?_
      obtain ⟨h, h0⟩ := Prod.mk.inj (Option.some.inj h)
      subst h h0
      exact j_iret (pc := 77) hX hE rfl rfl dX3_into_77 (Nat.le_refl 0) (Nat.le_refl 0) ⟨rfl, rfl, rfl⟩
    refine j_tabOut (pc := 22) (tgt := 70) hX dX3_into_22 (by have yz1 := lv_neT (a := 1) z1 (by decide); have yz2 := lv_neT (a := 2) z2 (by decide); have yz4 := lv_neT (a := 4) z4 (by decide); have yz3 := lv_neT (a := 3) z3 (by decide); omega) (by decide) ?_
    refine j_aload_n (pc := 70) hX dX3_into_70 rfl rfl ?_
    refine j_iload_n (pc := 71) hX dX3_into_71 rfl rfl ?_
    refine j_iload_n (pc := 72) hX dX3_into_72 rfl rfl ?_
    refine j_iload_n (pc := 73) hX dX3_into_73 rfl rfl ?_
    obtain ⟨r7, c8, h1, h⟩ := bd_some h
    refine k_callVI (pc := 74) (st := []) hX ln_3_32 dX3_into_74 (i4 _ _ _ _ _ _ _ h1) rfl rfl rfl hde (Nat.le_of_ble_eq_true rfl) ?_
    obtain ⟨h, h0⟩ := Prod.mk.inj (Option.some.inj h)
    subst h h0
    exact j_iret (pc := 77) hX hE rfl rfl dX3_into_77 (Nat.le_refl 0) (Nat.le_refl 0) ⟨rfl, rfl, rfl⟩
  · replace h := ite_t z h
    refine j_iload_n (pc := 12) hX dX3_into_12 rfl rfl ?_
    obtain ⟨h, h0⟩ := Prod.mk.inj (Option.some.inj h)
    subst h h0
    exact j_iret (pc := 13) hX hE rfl rfl dX3_into_13 (Nat.le_refl 0) (Nat.le_refl 0) ⟨rfl, rfl, rfl⟩

set_option maxHeartbeats 4000000 in
set_option maxRecDepth 100000 in
theorem tb_xPutter_intoFunction {l : Launch} {D : va_G} {G : Nat → ClassId} {d : Nat} {e : Nat} {F_into : jS → Int32 → Int32 → Int32 → Option (Int32 × jS)} {F_intoFunction : jS → Int32 → Int32 → Int32 → Option (Int32 × jS)} {F_intoBody : jS → Int32 → Int32 → Int32 → Int32 → Int32 → Option (Int32 × jS)} {F_intoLet : jS → Int32 → Int32 → Int32 → Option (Int32 × jS)} {F_intoParts : jS → Int32 → Int32 → Int32 → Option (Int32 × jS)} (i0 : ∀ (c r : jS) (a1 : Int32) (a2 : Int32) (a3 : Int32) (vE : Int32) (cE : jS), F_into c a1 a2 a3 = some (vE, cE) → jC l D G e M_xPutter_into [.ref 23, .int a1, .int a2, .int a3] (jmix c r) (some (.int vE)) (jmix cE r)) (i1 : ∀ (c r : jS) (a1 : Int32) (a2 : Int32) (a3 : Int32) (vE : Int32) (cE : jS), F_intoFunction c a1 a2 a3 = some (vE, cE) → jC l D G e M_xPutter_intoFunction [.ref 23, .int a1, .int a2, .int a3] (jmix c r) (some (.int vE)) (jmix cE r)) (i2 : ∀ (c r : jS) (a1 : Int32) (a2 : Int32) (a3 : Int32) (a4 : Int32) (a5 : Int32) (vE : Int32) (cE : jS), F_intoBody c a1 a2 a3 a4 a5 = some (vE, cE) → jC l D G e M_xPutter_intoBody [.ref 23, .int a1, .int a2, .int a3, .int a4, .int a5] (jmix c r) (some (.int vE)) (jmix cE r)) (i3 : ∀ (c r : jS) (a1 : Int32) (a2 : Int32) (a3 : Int32) (vE : Int32) (cE : jS), F_intoLet c a1 a2 a3 = some (vE, cE) → jC l D G e M_xPutter_intoLet [.ref 23, .int a1, .int a2, .int a3] (jmix c r) (some (.int vE)) (jmix cE r)) (i4 : ∀ (c r : jS) (a1 : Int32) (a2 : Int32) (a3 : Int32) (vE : Int32) (cE : jS), F_intoParts c a1 a2 a3 = some (vE, cE) → jC l D G e M_xPutter_intoParts [.ref 23, .int a1, .int a2, .int a3] (jmix c r) (some (.int vE)) (jmix cE r)) (hdp : 4 ≤ d) (hde : e + 1 ≤ d) {c r : jS} {a1 : Int32} {a2 : Int32} {a3 : Int32} {vE : Int32} {cE : jS} (h : b_xPutter_intoFunction F_into F_intoFunction F_intoBody F_intoLet F_intoParts c a1 a2 a3 = some (vE, cE)) : jC l D G d M_xPutter_intoFunction [.ref 23, .int a1, .int a2, .int a3] (jmix c r) (some (.int vE)) (jmix cE r) := by
  refine jM_of rfl (Nat.le_of_ble_eq_true rfl) ?_
  intro X hl hD hG _ _ hX hE _
  subst hl hD hG
  unfold b_xPutter_intoFunction at h
  show J X 0 0 jN (jE (jmix c r)) [(0, .ref 23), (1, .int a1), (2, .int a2), (3, .int a3)] [] 0
  refine j_aload_n (pc := 0) hX dX3_intoFunction_0 rfl rfl ?_
  refine k_getR (pc := 1) (q := 5) hX fl_3_9 dX3_intoFunction_1 rfl rfl ?_
  refine j_iload_n (pc := 4) hX dX3_intoFunction_4 rfl rfl ?_
  obtain ⟨r1, h1, h⟩ := ob_some h
  refine k_callVI (pc := 5) (st := []) hX ln_3_35 dX3_intoFunction_5 (t_xTerms_firstOf (d := 1) (Nat.le_refl _) h1) rfl rfl rfl (by omega) (Nat.le_of_ble_eq_true rfl) ?_
  refine j_istore (pc := 8) hX dX3_intoFunction_8 (by decide) (by decide) ?_
  refine j_aload_n (pc := 10) hX dX3_intoFunction_10 rfl rfl ?_
  refine j_aload_n (pc := 11) hX dX3_intoFunction_11 rfl rfl ?_
  refine k_getR (pc := 12) (q := 5) hX fl_3_9 dX3_intoFunction_12 rfl rfl ?_
  refine j_iload_n (pc := 15) hX dX3_intoFunction_15 rfl rfl ?_
  obtain ⟨r2, h1, h⟩ := ob_some h
  refine k_callVI (pc := 16) (st := [.ref 23]) hX ln_3_47 dX3_intoFunction_16 (t_xTerms_letterOf (d := 1) (Nat.le_refl _) h1) rfl rfl rfl (by omega) (Nat.le_of_ble_eq_true rfl) ?_
  refine j_iload (pc := 19) hX dX3_intoFunction_19 rfl ?_
  refine j_iload_n (pc := 21) hX dX3_intoFunction_21 rfl rfl ?_
  obtain ⟨r3, h1, h⟩ := ob_some h
  refine k_callVI (pc := 22) (st := []) hX ln_3_54 dX3_intoFunction_22 (t_xPutter_letterFor (d := 3) (Nat.le_refl _) h1) rfl rfl rfl (by omega) (Nat.le_of_ble_eq_true rfl) ?_
  refine j_istore (pc := 25) hX dX3_intoFunction_25 (by decide) (by decide) ?_
  refine j_aload_n (pc := 27) hX dX3_intoFunction_27 rfl rfl ?_
  refine j_iload (pc := 28) hX dX3_intoFunction_28 rfl ?_
  refine j_aload_n (pc := 30) hX dX3_intoFunction_30 rfl rfl ?_
  refine k_getR (pc := 31) (q := 5) hX fl_3_9 dX3_intoFunction_31 rfl rfl ?_
  refine j_iload_n (pc := 34) hX dX3_intoFunction_34 rfl rfl ?_
  obtain ⟨r4, h1, h⟩ := ob_some h
  refine k_callVI (pc := 35) (st := [.int r1, .ref 23]) hX ln_3_47 dX3_intoFunction_35 (t_xTerms_letterOf (d := 1) (Nat.le_refl _) h1) rfl rfl rfl (by omega) (Nat.le_of_ble_eq_true rfl) ?_
  refine j_iload (pc := 38) hX dX3_intoFunction_38 rfl ?_
  refine j_iload_n (pc := 40) hX dX3_intoFunction_40 rfl rfl ?_
  refine j_iload_n (pc := 41) hX dX3_intoFunction_41 rfl rfl ?_
  obtain ⟨r5, c6, h1, h⟩ := bd_some h
  refine k_callVI (pc := 42) (st := []) hX ln_3_57 dX3_intoFunction_42 (i2 _ _ _ _ _ _ _ _ _ h1) rfl rfl rfl hde (Nat.le_of_ble_eq_true rfl) ?_
  refine j_istore (pc := 45) hX dX3_intoFunction_45 (by decide) (by decide) ?_
  refine j_iload (pc := 47) hX dX3_intoFunction_47 rfl ?_
  refine j_if_ge (pc := 49) (tgt := 57) hX dX3_intoFunction_49 (by decide) (fun z => ?_) (fun z => ?_)
  · replace h := ite_t z h
    refine j_aload_n (pc := 57) hX dX3_intoFunction_57 rfl rfl ?_
    refine k_getR (pc := 58) (q := 5) hX fl_3_9 dX3_intoFunction_58 rfl rfl ?_
    refine j_iload_n (pc := 61) hX dX3_intoFunction_61 rfl rfl ?_
    refine j_iload (pc := 62) hX dX3_intoFunction_62 rfl ?_
    refine j_iload (pc := 64) hX dX3_intoFunction_64 rfl ?_
    refine j_bipush (pc := 66) (v := (-2 : Int32)) hX dX3_intoFunction_66 (by decide) ?_
    refine j_bipush (pc := 68) (v := (-2 : Int32)) hX dX3_intoFunction_68 (by decide) ?_
    obtain ⟨r7, c8, h1, h⟩ := bd_some h
    refine k_callVI (pc := 70) (st := []) hX ln_3_50 dX3_intoFunction_70 (t_xTerms_withParts (d := 3) (Nat.le_refl _) h1) rfl rfl rfl (by omega) (Nat.le_of_ble_eq_true rfl) ?_
    obtain ⟨h, h0⟩ := Prod.mk.inj (Option.some.inj h)
    subst h h0
    exact j_iret (pc := 73) hX hE rfl rfl dX3_intoFunction_73 (Nat.le_refl 0) (Nat.le_refl 0) ⟨rfl, rfl, rfl⟩
  · replace h := ite_f z h
    refine j_bipush (pc := 52) (v := (-3 : Int32)) hX dX3_intoFunction_52 (by decide) ?_
    refine j_goto (pc := 54) (tgt := 73) hX dX3_intoFunction_54 (by decide) ?_
    obtain ⟨h, h0⟩ := Prod.mk.inj (Option.some.inj h)
    subst h h0
    exact j_iret (pc := 73) hX hE rfl rfl dX3_intoFunction_73 (Nat.le_refl 0) (Nat.le_refl 0) ⟨rfl, rfl, rfl⟩

set_option maxHeartbeats 4000000 in
set_option maxRecDepth 100000 in
theorem tb_xPutter_intoBody {l : Launch} {D : va_G} {G : Nat → ClassId} {d : Nat} {e : Nat} {F_into : jS → Int32 → Int32 → Int32 → Option (Int32 × jS)} {F_intoFunction : jS → Int32 → Int32 → Int32 → Option (Int32 × jS)} {F_intoBody : jS → Int32 → Int32 → Int32 → Int32 → Int32 → Option (Int32 × jS)} {F_intoLet : jS → Int32 → Int32 → Int32 → Option (Int32 × jS)} {F_intoParts : jS → Int32 → Int32 → Int32 → Option (Int32 × jS)} (i0 : ∀ (c r : jS) (a1 : Int32) (a2 : Int32) (a3 : Int32) (vE : Int32) (cE : jS), F_into c a1 a2 a3 = some (vE, cE) → jC l D G e M_xPutter_into [.ref 23, .int a1, .int a2, .int a3] (jmix c r) (some (.int vE)) (jmix cE r)) (i1 : ∀ (c r : jS) (a1 : Int32) (a2 : Int32) (a3 : Int32) (vE : Int32) (cE : jS), F_intoFunction c a1 a2 a3 = some (vE, cE) → jC l D G e M_xPutter_intoFunction [.ref 23, .int a1, .int a2, .int a3] (jmix c r) (some (.int vE)) (jmix cE r)) (i2 : ∀ (c r : jS) (a1 : Int32) (a2 : Int32) (a3 : Int32) (a4 : Int32) (a5 : Int32) (vE : Int32) (cE : jS), F_intoBody c a1 a2 a3 a4 a5 = some (vE, cE) → jC l D G e M_xPutter_intoBody [.ref 23, .int a1, .int a2, .int a3, .int a4, .int a5] (jmix c r) (some (.int vE)) (jmix cE r)) (i3 : ∀ (c r : jS) (a1 : Int32) (a2 : Int32) (a3 : Int32) (vE : Int32) (cE : jS), F_intoLet c a1 a2 a3 = some (vE, cE) → jC l D G e M_xPutter_intoLet [.ref 23, .int a1, .int a2, .int a3] (jmix c r) (some (.int vE)) (jmix cE r)) (i4 : ∀ (c r : jS) (a1 : Int32) (a2 : Int32) (a3 : Int32) (vE : Int32) (cE : jS), F_intoParts c a1 a2 a3 = some (vE, cE) → jC l D G e M_xPutter_intoParts [.ref 23, .int a1, .int a2, .int a3] (jmix c r) (some (.int vE)) (jmix cE r)) (hdp : 4 ≤ d) (hde : e + 1 ≤ d) {c r : jS} {a1 : Int32} {a2 : Int32} {a3 : Int32} {a4 : Int32} {a5 : Int32} {vE : Int32} {cE : jS} (h : b_xPutter_intoBody F_into F_intoFunction F_intoBody F_intoLet F_intoParts c a1 a2 a3 a4 a5 = some (vE, cE)) : jC l D G d M_xPutter_intoBody [.ref 23, .int a1, .int a2, .int a3, .int a4, .int a5] (jmix c r) (some (.int vE)) (jmix cE r) := by
  refine jM_of rfl (Nat.le_of_ble_eq_true rfl) ?_
  intro X hl hD hG _ _ hX hE _
  subst hl hD hG
  unfold b_xPutter_intoBody at h
  show J X 0 0 jN (jE (jmix c r)) [(0, .ref 23), (1, .int a1), (2, .int a2), (3, .int a3), (4, .int a4), (5, .int a5)] [] 0
  refine j_iload_n (pc := 0) hX dX3_intoBody_0 rfl rfl ?_
  refine j_if_ge (pc := 1) (tgt := 7) hX dX3_intoBody_1 (by decide) (fun z => ?_) (fun z => ?_)
  · replace h := ite_t z h
    refine j_iload_n (pc := 7) hX dX3_intoBody_7 rfl rfl ?_
    refine j_iload_n (pc := 8) hX dX3_intoBody_8 rfl rfl ?_
    refine j_icmp_ne (pc := 9) (tgt := 22) hX dX3_intoBody_9 (by decide) (fun z => ?_) (fun z => ?_)
    · replace h := ite_f z h
      refine j_aload_n (pc := 22) hX dX3_intoBody_22 rfl rfl ?_
      refine k_getR (pc := 23) (q := 5) hX fl_3_9 dX3_intoBody_23 rfl rfl ?_
      refine j_iload_n (pc := 26) hX dX3_intoBody_26 rfl rfl ?_
      obtain ⟨r1, c2, h1, h⟩ := bd_some h
      refine k_callVI (pc := 27) (st := []) hX ln_3_60 dX3_intoBody_27 (t_xTerms_newName (d := 3) (Nat.le_refl _) h1) rfl rfl rfl (by omega) (Nat.le_of_ble_eq_true rfl) ?_
      refine j_istore (pc := 30) hX dX3_intoBody_30 (by decide) (by decide) ?_
      refine j_iload (pc := 32) hX dX3_intoBody_32 rfl ?_
      refine j_if_ge (pc := 34) (tgt := 40) hX dX3_intoBody_34 (by decide) (fun z => ?_) (fun z => ?_)
      · replace h := ite_t z h
        refine j_aload_n (pc := 40) hX dX3_intoBody_40 rfl rfl ?_
        refine j_iload_n (pc := 41) hX dX3_intoBody_41 rfl rfl ?_
        refine j_iload_n (pc := 42) hX dX3_intoBody_42 rfl rfl ?_
        refine j_iload (pc := 43) hX dX3_intoBody_43 rfl ?_
        obtain ⟨r3, c4, h1, h⟩ := bd_some h
        refine k_callVI (pc := 45) (st := []) hX ln_3_38 dX3_intoBody_45 (i0 _ _ _ _ _ _ _ h1) rfl rfl rfl hde (Nat.le_of_ble_eq_true rfl) ?_
        refine j_istore (pc := 48) hX dX3_intoBody_48 (by decide) (by decide) ?_
        refine j_iload (pc := 50) hX dX3_intoBody_50 rfl ?_
        refine j_if_ge (pc := 52) (tgt := 60) hX dX3_intoBody_52 (by decide) (fun z => ?_) (fun z => ?_)
        · replace h := ite_t z h
          refine j_aload_n (pc := 60) hX dX3_intoBody_60 rfl rfl ?_
          refine j_iload (pc := 61) hX dX3_intoBody_61 rfl ?_
          refine j_iload (pc := 63) hX dX3_intoBody_63 rfl ?_
          refine j_iload (pc := 65) hX dX3_intoBody_65 rfl ?_
          obtain ⟨r5, c6, h1, h⟩ := bd_some h
          refine k_callVI (pc := 67) (st := []) hX ln_3_38 dX3_intoBody_67 (i0 _ _ _ _ _ _ _ h1) rfl rfl rfl hde (Nat.le_of_ble_eq_true rfl) ?_
          obtain ⟨h, h0⟩ := Prod.mk.inj (Option.some.inj h)
          subst h h0
          exact j_iret (pc := 70) hX hE rfl rfl dX3_intoBody_70 (Nat.le_refl 0) (Nat.le_refl 0) ⟨rfl, rfl, rfl⟩
        · replace h := ite_f z h
          refine j_bipush (pc := 55) (v := (-3 : Int32)) hX dX3_intoBody_55 (by decide) ?_
          refine j_goto (pc := 57) (tgt := 70) hX dX3_intoBody_57 (by decide) ?_
          obtain ⟨h, h0⟩ := Prod.mk.inj (Option.some.inj h)
          subst h h0
          exact j_iret (pc := 70) hX hE rfl rfl dX3_intoBody_70 (Nat.le_refl 0) (Nat.le_refl 0) ⟨rfl, rfl, rfl⟩
      · replace h := ite_f z h
        refine j_bipush (pc := 37) (v := (-3 : Int32)) hX dX3_intoBody_37 (by decide) ?_
        obtain ⟨h, h0⟩ := Prod.mk.inj (Option.some.inj h)
        subst h h0
        exact j_iret (pc := 39) hX hE rfl rfl dX3_intoBody_39 (Nat.le_refl 0) (Nat.le_refl 0) ⟨rfl, rfl, rfl⟩
    · replace h := ite_t z h
      refine j_aload_n (pc := 12) hX dX3_intoBody_12 rfl rfl ?_
      refine j_iload_n (pc := 13) hX dX3_intoBody_13 rfl rfl ?_
      refine j_iload (pc := 14) hX dX3_intoBody_14 rfl ?_
      refine j_iload (pc := 16) hX dX3_intoBody_16 rfl ?_
      obtain ⟨r7, c8, h1, h⟩ := bd_some h
      refine k_callVI (pc := 18) (st := []) hX ln_3_38 dX3_intoBody_18 (i0 _ _ _ _ _ _ _ h1) rfl rfl rfl hde (Nat.le_of_ble_eq_true rfl) ?_
      obtain ⟨h, h0⟩ := Prod.mk.inj (Option.some.inj h)
      subst h h0
      exact j_iret (pc := 21) hX hE rfl rfl dX3_intoBody_21 (Nat.le_refl 0) (Nat.le_refl 0) ⟨rfl, rfl, rfl⟩
  · replace h := ite_f z h
    refine j_bipush (pc := 4) (v := (-3 : Int32)) hX dX3_intoBody_4 (by decide) ?_
    obtain ⟨h, h0⟩ := Prod.mk.inj (Option.some.inj h)
    subst h h0
    exact j_iret (pc := 6) hX hE rfl rfl dX3_intoBody_6 (Nat.le_refl 0) (Nat.le_refl 0) ⟨rfl, rfl, rfl⟩

set_option maxHeartbeats 4000000 in
set_option maxRecDepth 100000 in
theorem tb_xPutter_intoLet {l : Launch} {D : va_G} {G : Nat → ClassId} {d : Nat} {e : Nat} {F_into : jS → Int32 → Int32 → Int32 → Option (Int32 × jS)} {F_intoFunction : jS → Int32 → Int32 → Int32 → Option (Int32 × jS)} {F_intoBody : jS → Int32 → Int32 → Int32 → Int32 → Int32 → Option (Int32 × jS)} {F_intoLet : jS → Int32 → Int32 → Int32 → Option (Int32 × jS)} {F_intoParts : jS → Int32 → Int32 → Int32 → Option (Int32 × jS)} (i0 : ∀ (c r : jS) (a1 : Int32) (a2 : Int32) (a3 : Int32) (vE : Int32) (cE : jS), F_into c a1 a2 a3 = some (vE, cE) → jC l D G e M_xPutter_into [.ref 23, .int a1, .int a2, .int a3] (jmix c r) (some (.int vE)) (jmix cE r)) (i1 : ∀ (c r : jS) (a1 : Int32) (a2 : Int32) (a3 : Int32) (vE : Int32) (cE : jS), F_intoFunction c a1 a2 a3 = some (vE, cE) → jC l D G e M_xPutter_intoFunction [.ref 23, .int a1, .int a2, .int a3] (jmix c r) (some (.int vE)) (jmix cE r)) (i2 : ∀ (c r : jS) (a1 : Int32) (a2 : Int32) (a3 : Int32) (a4 : Int32) (a5 : Int32) (vE : Int32) (cE : jS), F_intoBody c a1 a2 a3 a4 a5 = some (vE, cE) → jC l D G e M_xPutter_intoBody [.ref 23, .int a1, .int a2, .int a3, .int a4, .int a5] (jmix c r) (some (.int vE)) (jmix cE r)) (i3 : ∀ (c r : jS) (a1 : Int32) (a2 : Int32) (a3 : Int32) (vE : Int32) (cE : jS), F_intoLet c a1 a2 a3 = some (vE, cE) → jC l D G e M_xPutter_intoLet [.ref 23, .int a1, .int a2, .int a3] (jmix c r) (some (.int vE)) (jmix cE r)) (i4 : ∀ (c r : jS) (a1 : Int32) (a2 : Int32) (a3 : Int32) (vE : Int32) (cE : jS), F_intoParts c a1 a2 a3 = some (vE, cE) → jC l D G e M_xPutter_intoParts [.ref 23, .int a1, .int a2, .int a3] (jmix c r) (some (.int vE)) (jmix cE r)) (hdp : 4 ≤ d) (hde : e + 1 ≤ d) {c r : jS} {a1 : Int32} {a2 : Int32} {a3 : Int32} {vE : Int32} {cE : jS} (h : b_xPutter_intoLet F_into F_intoFunction F_intoBody F_intoLet F_intoParts c a1 a2 a3 = some (vE, cE)) : jC l D G d M_xPutter_intoLet [.ref 23, .int a1, .int a2, .int a3] (jmix c r) (some (.int vE)) (jmix cE r) := by
  refine jM_of rfl (Nat.le_of_ble_eq_true rfl) ?_
  intro X hl hD hG _ _ hX hE _
  subst hl hD hG
  unfold b_xPutter_intoLet at h
  show J X 0 0 jN (jE (jmix c r)) [(0, .ref 23), (1, .int a1), (2, .int a2), (3, .int a3)] [] 0
  refine j_aload_n (pc := 0) hX dX3_intoLet_0 rfl rfl ?_
  refine k_getR (pc := 1) (q := 5) hX fl_3_9 dX3_intoLet_1 rfl rfl ?_
  refine j_iload_n (pc := 4) hX dX3_intoLet_4 rfl rfl ?_
  obtain ⟨r1, h1, h⟩ := ob_some h
  refine k_callVI (pc := 5) (st := []) hX ln_3_47 dX3_intoLet_5 (t_xTerms_letterOf (d := 1) (Nat.le_refl _) h1) rfl rfl rfl (by omega) (Nat.le_of_ble_eq_true rfl) ?_
  refine j_istore (pc := 8) hX dX3_intoLet_8 (by decide) (by decide) ?_
  refine j_aload_n (pc := 10) hX dX3_intoLet_10 rfl rfl ?_
  refine k_getR (pc := 11) (q := 5) hX fl_3_9 dX3_intoLet_11 rfl rfl ?_
  refine j_iload_n (pc := 14) hX dX3_intoLet_14 rfl rfl ?_
  obtain ⟨r2, h1, h⟩ := ob_some h
  refine k_callVI (pc := 15) (st := []) hX ln_3_41 dX3_intoLet_15 (t_xTerms_secondOf (d := 1) (Nat.le_refl _) h1) rfl rfl rfl (by omega) (Nat.le_of_ble_eq_true rfl) ?_
  refine j_istore (pc := 18) hX dX3_intoLet_18 (by decide) (by decide) ?_
  refine j_aload_n (pc := 20) hX dX3_intoLet_20 rfl rfl ?_
  refine j_aload_n (pc := 21) hX dX3_intoLet_21 rfl rfl ?_
  refine k_getR (pc := 22) (q := 5) hX fl_3_9 dX3_intoLet_22 rfl rfl ?_
  refine j_iload_n (pc := 25) hX dX3_intoLet_25 rfl rfl ?_
  obtain ⟨r3, h1, h⟩ := ob_some h
  refine k_callVI (pc := 26) (st := [.ref 23]) hX ln_3_35 dX3_intoLet_26 (t_xTerms_firstOf (d := 1) (Nat.le_refl _) h1) rfl rfl rfl (by omega) (Nat.le_of_ble_eq_true rfl) ?_
  refine j_iload_n (pc := 29) hX dX3_intoLet_29 rfl rfl ?_
  refine j_iload_n (pc := 30) hX dX3_intoLet_30 rfl rfl ?_
  obtain ⟨r4, c5, h1, h⟩ := bd_some h
  refine k_callVI (pc := 31) (st := []) hX ln_3_38 dX3_intoLet_31 (i0 _ _ _ _ _ _ _ h1) rfl rfl rfl hde (Nat.le_of_ble_eq_true rfl) ?_
  refine j_istore (pc := 34) hX dX3_intoLet_34 (by decide) (by decide) ?_
  refine j_iload (pc := 36) hX dX3_intoLet_36 rfl ?_
  refine j_if_ge (pc := 38) (tgt := 44) hX dX3_intoLet_38 (by decide) (fun z => ?_) (fun z => ?_)
  · replace h := ite_t z h
    refine j_iload (pc := 44) hX dX3_intoLet_44 rfl ?_
    refine j_iload_n (pc := 46) hX dX3_intoLet_46 rfl rfl ?_
    refine j_icmp_eq (pc := 47) (tgt := 63) hX dX3_intoLet_47 (by decide) (fun z => ?_) (fun z => ?_)
    · replace h := ite_t z h
      refine j_aload_n (pc := 63) hX dX3_intoLet_63 rfl rfl ?_
      refine k_getR (pc := 64) (q := 5) hX fl_3_9 dX3_intoLet_64 rfl rfl ?_
      refine j_iload_n (pc := 67) hX dX3_intoLet_67 rfl rfl ?_
      refine j_iload (pc := 68) hX dX3_intoLet_68 rfl ?_
      refine j_iload (pc := 70) hX dX3_intoLet_70 rfl ?_
      refine j_iload (pc := 72) hX dX3_intoLet_72 rfl ?_
      refine j_bipush (pc := 74) (v := (-2 : Int32)) hX dX3_intoLet_74 (by decide) ?_
      obtain ⟨r6, c7, h1, h⟩ := bd_some h
      refine k_callVI (pc := 76) (st := []) hX ln_3_50 dX3_intoLet_76 (t_xTerms_withParts (d := 3) (Nat.le_refl _) h1) rfl rfl rfl (by omega) (Nat.le_of_ble_eq_true rfl) ?_
      obtain ⟨h, h0⟩ := Prod.mk.inj (Option.some.inj h)
      subst h h0
      exact j_iret (pc := 79) hX hE rfl rfl dX3_intoLet_79 (Nat.le_refl 0) (Nat.le_refl 0) ⟨rfl, rfl, rfl⟩
    · replace h := ite_f z h
      refine j_aload_n (pc := 50) hX dX3_intoLet_50 rfl rfl ?_
      refine k_getR (pc := 51) (q := 5) hX fl_3_9 dX3_intoLet_51 rfl rfl ?_
      refine j_iload (pc := 54) hX dX3_intoLet_54 rfl ?_
      refine j_iload_n (pc := 56) hX dX3_intoLet_56 rfl rfl ?_
      obtain ⟨r8, h1, h⟩ := ob_some h
      refine k_callVI (pc := 57) (st := []) hX ln_3_15 dX3_intoLet_57 (t_xTerms_isFree (d := 2) (Nat.le_refl _) h1) rfl rfl rfl (by omega) (Nat.le_of_ble_eq_true rfl) ?_
      refine j_if_ne (pc := 60) (tgt := 80) hX dX3_intoLet_60 (by decide) (fun z => ?_) (fun z => ?_)
      · replace h := ite_f z h
        refine j_aload_n (pc := 80) hX dX3_intoLet_80 rfl rfl ?_
        refine j_iload (pc := 81) hX dX3_intoLet_81 rfl ?_
        refine j_iload (pc := 83) hX dX3_intoLet_83 rfl ?_
        refine j_iload_n (pc := 85) hX dX3_intoLet_85 rfl rfl ?_
        obtain ⟨r9, h1, h⟩ := ob_some h
        refine k_callVI (pc := 86) (st := []) hX ln_3_54 dX3_intoLet_86 (t_xPutter_letterFor (d := 3) (Nat.le_refl _) h1) rfl rfl rfl (by omega) (Nat.le_of_ble_eq_true rfl) ?_
        refine j_istore (pc := 89) hX dX3_intoLet_89 (by decide) (by decide) ?_
        refine j_aload_n (pc := 91) hX dX3_intoLet_91 rfl rfl ?_
        refine j_iload (pc := 92) hX dX3_intoLet_92 rfl ?_
        refine j_iload (pc := 94) hX dX3_intoLet_94 rfl ?_
        refine j_iload (pc := 96) hX dX3_intoLet_96 rfl ?_
        refine j_iload_n (pc := 98) hX dX3_intoLet_98 rfl rfl ?_
        refine j_iload_n (pc := 99) hX dX3_intoLet_99 rfl rfl ?_
        obtain ⟨r10, c11, h1, h⟩ := bd_some h
        refine k_callVI (pc := 100) (st := []) hX ln_3_57 dX3_intoLet_100 (i2 _ _ _ _ _ _ _ _ _ h1) rfl rfl rfl hde (Nat.le_of_ble_eq_true rfl) ?_
        refine j_istore (pc := 103) hX dX3_intoLet_103 (by decide) (by decide) ?_
        refine j_iload (pc := 105) hX dX3_intoLet_105 rfl ?_
        refine j_if_ge (pc := 107) (tgt := 115) hX dX3_intoLet_107 (by decide) (fun z => ?_) (fun z => ?_)
        · replace h := ite_t z h
          refine j_aload_n (pc := 115) hX dX3_intoLet_115 rfl rfl ?_
          refine k_getR (pc := 116) (q := 5) hX fl_3_9 dX3_intoLet_116 rfl rfl ?_
          refine j_iload_n (pc := 119) hX dX3_intoLet_119 rfl rfl ?_
          refine j_iload (pc := 120) hX dX3_intoLet_120 rfl ?_
          refine j_iload (pc := 122) hX dX3_intoLet_122 rfl ?_
          refine j_iload (pc := 124) hX dX3_intoLet_124 rfl ?_
          refine j_bipush (pc := 126) (v := (-2 : Int32)) hX dX3_intoLet_126 (by decide) ?_
          obtain ⟨r12, c13, h1, h⟩ := bd_some h
          refine k_callVI (pc := 128) (st := []) hX ln_3_50 dX3_intoLet_128 (t_xTerms_withParts (d := 3) (Nat.le_refl _) h1) rfl rfl rfl (by omega) (Nat.le_of_ble_eq_true rfl) ?_
          obtain ⟨h, h0⟩ := Prod.mk.inj (Option.some.inj h)
          subst h h0
          exact j_iret (pc := 131) hX hE rfl rfl dX3_intoLet_131 (Nat.le_refl 0) (Nat.le_refl 0) ⟨rfl, rfl, rfl⟩
        · replace h := ite_f z h
          refine j_bipush (pc := 110) (v := (-3 : Int32)) hX dX3_intoLet_110 (by decide) ?_
          refine j_goto (pc := 112) (tgt := 131) hX dX3_intoLet_112 (by decide) ?_
          obtain ⟨h, h0⟩ := Prod.mk.inj (Option.some.inj h)
          subst h h0
          exact j_iret (pc := 131) hX hE rfl rfl dX3_intoLet_131 (Nat.le_refl 0) (Nat.le_refl 0) ⟨rfl, rfl, rfl⟩
      · replace h := ite_t z h
        refine j_aload_n (pc := 63) hX dX3_intoLet_63 rfl rfl ?_
        refine k_getR (pc := 64) (q := 5) hX fl_3_9 dX3_intoLet_64 rfl rfl ?_
        refine j_iload_n (pc := 67) hX dX3_intoLet_67 rfl rfl ?_
        refine j_iload (pc := 68) hX dX3_intoLet_68 rfl ?_
        refine j_iload (pc := 70) hX dX3_intoLet_70 rfl ?_
        refine j_iload (pc := 72) hX dX3_intoLet_72 rfl ?_
        refine j_bipush (pc := 74) (v := (-2 : Int32)) hX dX3_intoLet_74 (by decide) ?_
        obtain ⟨r14, c15, h1, h⟩ := bd_some h
        refine k_callVI (pc := 76) (st := []) hX ln_3_50 dX3_intoLet_76 (t_xTerms_withParts (d := 3) (Nat.le_refl _) h1) rfl rfl rfl (by omega) (Nat.le_of_ble_eq_true rfl) ?_
        obtain ⟨h, h0⟩ := Prod.mk.inj (Option.some.inj h)
        subst h h0
        exact j_iret (pc := 79) hX hE rfl rfl dX3_intoLet_79 (Nat.le_refl 0) (Nat.le_refl 0) ⟨rfl, rfl, rfl⟩
  · replace h := ite_f z h
    refine j_bipush (pc := 41) (v := (-3 : Int32)) hX dX3_intoLet_41 (by decide) ?_
    obtain ⟨h, h0⟩ := Prod.mk.inj (Option.some.inj h)
    subst h h0
    exact j_iret (pc := 43) hX hE rfl rfl dX3_intoLet_43 (Nat.le_refl 0) (Nat.le_refl 0) ⟨rfl, rfl, rfl⟩

set_option maxHeartbeats 4000000 in
set_option maxRecDepth 100000 in
theorem tb_xPutter_intoParts {l : Launch} {D : va_G} {G : Nat → ClassId} {d : Nat} {e : Nat} {F_into : jS → Int32 → Int32 → Int32 → Option (Int32 × jS)} {F_intoFunction : jS → Int32 → Int32 → Int32 → Option (Int32 × jS)} {F_intoBody : jS → Int32 → Int32 → Int32 → Int32 → Int32 → Option (Int32 × jS)} {F_intoLet : jS → Int32 → Int32 → Int32 → Option (Int32 × jS)} {F_intoParts : jS → Int32 → Int32 → Int32 → Option (Int32 × jS)} (i0 : ∀ (c r : jS) (a1 : Int32) (a2 : Int32) (a3 : Int32) (vE : Int32) (cE : jS), F_into c a1 a2 a3 = some (vE, cE) → jC l D G e M_xPutter_into [.ref 23, .int a1, .int a2, .int a3] (jmix c r) (some (.int vE)) (jmix cE r)) (i1 : ∀ (c r : jS) (a1 : Int32) (a2 : Int32) (a3 : Int32) (vE : Int32) (cE : jS), F_intoFunction c a1 a2 a3 = some (vE, cE) → jC l D G e M_xPutter_intoFunction [.ref 23, .int a1, .int a2, .int a3] (jmix c r) (some (.int vE)) (jmix cE r)) (i2 : ∀ (c r : jS) (a1 : Int32) (a2 : Int32) (a3 : Int32) (a4 : Int32) (a5 : Int32) (vE : Int32) (cE : jS), F_intoBody c a1 a2 a3 a4 a5 = some (vE, cE) → jC l D G e M_xPutter_intoBody [.ref 23, .int a1, .int a2, .int a3, .int a4, .int a5] (jmix c r) (some (.int vE)) (jmix cE r)) (i3 : ∀ (c r : jS) (a1 : Int32) (a2 : Int32) (a3 : Int32) (vE : Int32) (cE : jS), F_intoLet c a1 a2 a3 = some (vE, cE) → jC l D G e M_xPutter_intoLet [.ref 23, .int a1, .int a2, .int a3] (jmix c r) (some (.int vE)) (jmix cE r)) (i4 : ∀ (c r : jS) (a1 : Int32) (a2 : Int32) (a3 : Int32) (vE : Int32) (cE : jS), F_intoParts c a1 a2 a3 = some (vE, cE) → jC l D G e M_xPutter_intoParts [.ref 23, .int a1, .int a2, .int a3] (jmix c r) (some (.int vE)) (jmix cE r)) (hdp : 4 ≤ d) (hde : e + 1 ≤ d) {c r : jS} {a1 : Int32} {a2 : Int32} {a3 : Int32} {vE : Int32} {cE : jS} (h : b_xPutter_intoParts F_into F_intoFunction F_intoBody F_intoLet F_intoParts c a1 a2 a3 = some (vE, cE)) : jC l D G d M_xPutter_intoParts [.ref 23, .int a1, .int a2, .int a3] (jmix c r) (some (.int vE)) (jmix cE r) := by
  refine jM_of rfl (Nat.le_of_ble_eq_true rfl) ?_
  intro X hl hD hG _ _ hX hE _
  subst hl hD hG
  unfold b_xPutter_intoParts at h
  show J X 0 0 jN (jE (jmix c r)) [(0, .ref 23), (1, .int a1), (2, .int a2), (3, .int a3)] [] 0
  refine j_aload_n (pc := 0) hX dX3_intoParts_0 rfl rfl ?_
  refine j_aload_n (pc := 1) hX dX3_intoParts_1 rfl rfl ?_
  refine k_getR (pc := 2) (q := 5) hX fl_3_9 dX3_intoParts_2 rfl rfl ?_
  refine j_iload_n (pc := 5) hX dX3_intoParts_5 rfl rfl ?_
  obtain ⟨r1, h1, h⟩ := ob_some h
  refine k_callVI (pc := 6) (st := [.ref 23]) hX ln_3_35 dX3_intoParts_6 (t_xTerms_firstOf (d := 1) (Nat.le_refl _) h1) rfl rfl rfl (by omega) (Nat.le_of_ble_eq_true rfl) ?_
  refine j_iload_n (pc := 9) hX dX3_intoParts_9 rfl rfl ?_
  refine j_iload_n (pc := 10) hX dX3_intoParts_10 rfl rfl ?_
  obtain ⟨r2, c3, h1, h⟩ := bd_some h
  refine k_callVI (pc := 11) (st := []) hX ln_3_38 dX3_intoParts_11 (i0 _ _ _ _ _ _ _ h1) rfl rfl rfl hde (Nat.le_of_ble_eq_true rfl) ?_
  refine j_istore (pc := 14) hX dX3_intoParts_14 (by decide) (by decide) ?_
  refine j_iload (pc := 16) hX dX3_intoParts_16 rfl ?_
  refine j_bipush (pc := 18) (v := (-3 : Int32)) hX dX3_intoParts_18 (by decide) ?_
  refine j_icmp_ne (pc := 20) (tgt := 26) hX dX3_intoParts_20 (by decide) (fun z => ?_) (fun z => ?_)
  · replace h := ite_f z h
    refine j_aload_n (pc := 26) hX dX3_intoParts_26 rfl rfl ?_
    refine j_aload_n (pc := 27) hX dX3_intoParts_27 rfl rfl ?_
    refine k_getR (pc := 28) (q := 5) hX fl_3_9 dX3_intoParts_28 rfl rfl ?_
    refine j_iload_n (pc := 31) hX dX3_intoParts_31 rfl rfl ?_
    obtain ⟨r4, h1, h⟩ := ob_some h
    refine k_callVI (pc := 32) (st := [.ref 23]) hX ln_3_41 dX3_intoParts_32 (t_xTerms_secondOf (d := 1) (Nat.le_refl _) h1) rfl rfl rfl (by omega) (Nat.le_of_ble_eq_true rfl) ?_
    refine j_iload_n (pc := 35) hX dX3_intoParts_35 rfl rfl ?_
    refine j_iload_n (pc := 36) hX dX3_intoParts_36 rfl rfl ?_
    obtain ⟨r5, c6, h1, h⟩ := bd_some h
    refine k_callVI (pc := 37) (st := []) hX ln_3_38 dX3_intoParts_37 (i0 _ _ _ _ _ _ _ h1) rfl rfl rfl hde (Nat.le_of_ble_eq_true rfl) ?_
    refine j_istore (pc := 40) hX dX3_intoParts_40 (by decide) (by decide) ?_
    refine j_iload (pc := 42) hX dX3_intoParts_42 rfl ?_
    refine j_bipush (pc := 44) (v := (-3 : Int32)) hX dX3_intoParts_44 (by decide) ?_
    refine j_icmp_ne (pc := 46) (tgt := 52) hX dX3_intoParts_46 (by decide) (fun z => ?_) (fun z => ?_)
    · replace h := ite_f z h
      refine j_aload_n (pc := 52) hX dX3_intoParts_52 rfl rfl ?_
      refine j_aload_n (pc := 53) hX dX3_intoParts_53 rfl rfl ?_
      refine k_getR (pc := 54) (q := 5) hX fl_3_9 dX3_intoParts_54 rfl rfl ?_
      refine j_iload_n (pc := 57) hX dX3_intoParts_57 rfl rfl ?_
      obtain ⟨r7, h1, h⟩ := ob_some h
      refine k_callVI (pc := 58) (st := [.ref 23]) hX ln_3_44 dX3_intoParts_58 (t_xTerms_thirdOf (d := 1) (Nat.le_refl _) h1) rfl rfl rfl (by omega) (Nat.le_of_ble_eq_true rfl) ?_
      refine j_iload_n (pc := 61) hX dX3_intoParts_61 rfl rfl ?_
      refine j_iload_n (pc := 62) hX dX3_intoParts_62 rfl rfl ?_
      obtain ⟨r8, c9, h1, h⟩ := bd_some h
      refine k_callVI (pc := 63) (st := []) hX ln_3_38 dX3_intoParts_63 (i0 _ _ _ _ _ _ _ h1) rfl rfl rfl hde (Nat.le_of_ble_eq_true rfl) ?_
      refine j_istore (pc := 66) hX dX3_intoParts_66 (by decide) (by decide) ?_
      refine j_iload (pc := 68) hX dX3_intoParts_68 rfl ?_
      refine j_bipush (pc := 70) (v := (-3 : Int32)) hX dX3_intoParts_70 (by decide) ?_
      refine j_icmp_ne (pc := 72) (tgt := 80) hX dX3_intoParts_72 (by decide) (fun z => ?_) (fun z => ?_)
      · replace h := ite_f z h
        refine j_aload_n (pc := 80) hX dX3_intoParts_80 rfl rfl ?_
        refine k_getR (pc := 81) (q := 5) hX fl_3_9 dX3_intoParts_81 rfl rfl ?_
        refine j_iload_n (pc := 84) hX dX3_intoParts_84 rfl rfl ?_
        refine j_aload_n (pc := 85) hX dX3_intoParts_85 rfl rfl ?_
        refine k_getR (pc := 86) (q := 5) hX fl_3_9 dX3_intoParts_86 rfl rfl ?_
        refine j_iload_n (pc := 89) hX dX3_intoParts_89 rfl rfl ?_
        obtain ⟨r10, h1, h⟩ := ob_some h
        refine k_callVI (pc := 90) (st := [.int a1, .ref 5]) hX ln_3_47 dX3_intoParts_90 (t_xTerms_letterOf (d := 1) (Nat.le_refl _) h1) rfl rfl rfl (by omega) (Nat.le_of_ble_eq_true rfl) ?_
        refine j_iload (pc := 93) hX dX3_intoParts_93 rfl ?_
        refine j_iload (pc := 95) hX dX3_intoParts_95 rfl ?_
        refine j_iload (pc := 97) hX dX3_intoParts_97 rfl ?_
        obtain ⟨r11, c12, h1, h⟩ := bd_some h
        refine k_callVI (pc := 99) (st := []) hX ln_3_50 dX3_intoParts_99 (t_xTerms_withParts (d := 3) (Nat.le_refl _) h1) rfl rfl rfl (by omega) (Nat.le_of_ble_eq_true rfl) ?_
        obtain ⟨h, h0⟩ := Prod.mk.inj (Option.some.inj h)
        subst h h0
        exact j_iret (pc := 102) hX hE rfl rfl dX3_intoParts_102 (Nat.le_refl 0) (Nat.le_refl 0) ⟨rfl, rfl, rfl⟩
      · replace h := ite_t z h
        refine j_bipush (pc := 75) (v := (-3 : Int32)) hX dX3_intoParts_75 (by decide) ?_
        refine j_goto (pc := 77) (tgt := 102) hX dX3_intoParts_77 (by decide) ?_
        obtain ⟨h, h0⟩ := Prod.mk.inj (Option.some.inj h)
        subst h h0
        exact j_iret (pc := 102) hX hE rfl rfl dX3_intoParts_102 (Nat.le_refl 0) (Nat.le_refl 0) ⟨rfl, rfl, rfl⟩
    · replace h := ite_t z h
      refine j_bipush (pc := 49) (v := (-3 : Int32)) hX dX3_intoParts_49 (by decide) ?_
      obtain ⟨h, h0⟩ := Prod.mk.inj (Option.some.inj h)
      subst h h0
      exact j_iret (pc := 51) hX hE rfl rfl dX3_intoParts_51 (Nat.le_refl 0) (Nat.le_refl 0) ⟨rfl, rfl, rfl⟩
  · replace h := ite_t z h
    refine j_bipush (pc := 23) (v := (-3 : Int32)) hX dX3_intoParts_23 (by decide) ?_
    obtain ⟨h, h0⟩ := Prod.mk.inj (Option.some.inj h)
    subst h h0
    exact j_iret (pc := 25) hX hE rfl rfl dX3_intoParts_25 (Nat.le_refl 0) (Nat.le_refl 0) ⟨rfl, rfl, rfl⟩

set_option maxHeartbeats 4000000 in
set_option maxRecDepth 100000 in
theorem tg_xPutter_into {l : Launch} {D : va_G} {G : Nat → ClassId} : ∀ f : Nat, (∀ (c r : jS) (a1 : Int32) (a2 : Int32) (a3 : Int32) (vE : Int32) (cE : jS), xPutter_into f c a1 a2 a3 = some (vE, cE) → jC l D G (f + 4) M_xPutter_into [.ref 23, .int a1, .int a2, .int a3] (jmix c r) (some (.int vE)) (jmix cE r)) ∧
    (∀ (c r : jS) (a1 : Int32) (a2 : Int32) (a3 : Int32) (vE : Int32) (cE : jS), xPutter_intoFunction f c a1 a2 a3 = some (vE, cE) → jC l D G (f + 4) M_xPutter_intoFunction [.ref 23, .int a1, .int a2, .int a3] (jmix c r) (some (.int vE)) (jmix cE r)) ∧
    (∀ (c r : jS) (a1 : Int32) (a2 : Int32) (a3 : Int32) (a4 : Int32) (a5 : Int32) (vE : Int32) (cE : jS), xPutter_intoBody f c a1 a2 a3 a4 a5 = some (vE, cE) → jC l D G (f + 4) M_xPutter_intoBody [.ref 23, .int a1, .int a2, .int a3, .int a4, .int a5] (jmix c r) (some (.int vE)) (jmix cE r)) ∧
    (∀ (c r : jS) (a1 : Int32) (a2 : Int32) (a3 : Int32) (vE : Int32) (cE : jS), xPutter_intoLet f c a1 a2 a3 = some (vE, cE) → jC l D G (f + 4) M_xPutter_intoLet [.ref 23, .int a1, .int a2, .int a3] (jmix c r) (some (.int vE)) (jmix cE r)) ∧
    (∀ (c r : jS) (a1 : Int32) (a2 : Int32) (a3 : Int32) (vE : Int32) (cE : jS), xPutter_intoParts f c a1 a2 a3 = some (vE, cE) → jC l D G (f + 4) M_xPutter_intoParts [.ref 23, .int a1, .int a2, .int a3] (jmix c r) (some (.int vE)) (jmix cE r)) := by
  intro f
  induction f with
  | zero =>
    exact ⟨fun _ _ _ _ _ _ _ h => (by cases h), fun _ _ _ _ _ _ _ h => (by cases h), fun _ _ _ _ _ _ _ _ _ h => (by cases h), fun _ _ _ _ _ _ _ h => (by cases h), fun _ _ _ _ _ _ _ h => (by cases h)⟩
  | succ f ih =>
    obtain ⟨i0, i1, i2, i3, i4⟩ := ih
    exact ⟨fun _ _ _ _ _ _ _ h => tb_xPutter_into (e := f + 4) i0 i1 i2 i3 i4 (by omega) (by omega) h,
      fun _ _ _ _ _ _ _ h => tb_xPutter_intoFunction (e := f + 4) i0 i1 i2 i3 i4 (by omega) (by omega) h,
      fun _ _ _ _ _ _ _ _ _ h => tb_xPutter_intoBody (e := f + 4) i0 i1 i2 i3 i4 (by omega) (by omega) h,
      fun _ _ _ _ _ _ _ h => tb_xPutter_intoLet (e := f + 4) i0 i1 i2 i3 i4 (by omega) (by omega) h,
      fun _ _ _ _ _ _ _ h => tb_xPutter_intoParts (e := f + 4) i0 i1 i2 i3 i4 (by omega) (by omega) h⟩

theorem t_xPutter_into {l : Launch} {D : va_G} {G : Nat → ClassId} {c r : jS} {a1 : Int32} {a2 : Int32} {a3 : Int32} {vE : Int32} {cE : jS} (h : xPutter_into 130 c a1 a2 a3 = some (vE, cE)) : jC l D G 134 M_xPutter_into [.ref 23, .int a1, .int a2, .int a3] (jmix c r) (some (.int vE)) (jmix cE r) := (tg_xPutter_into 130).1 _ _ _ _ _ _ _ h

theorem t_xPutter_intoFunction {l : Launch} {D : va_G} {G : Nat → ClassId} {c r : jS} {a1 : Int32} {a2 : Int32} {a3 : Int32} {vE : Int32} {cE : jS} (h : xPutter_intoFunction 130 c a1 a2 a3 = some (vE, cE)) : jC l D G 134 M_xPutter_intoFunction [.ref 23, .int a1, .int a2, .int a3] (jmix c r) (some (.int vE)) (jmix cE r) := (tg_xPutter_into 130).2.1 _ _ _ _ _ _ _ h

theorem t_xPutter_intoBody {l : Launch} {D : va_G} {G : Nat → ClassId} {c r : jS} {a1 : Int32} {a2 : Int32} {a3 : Int32} {a4 : Int32} {a5 : Int32} {vE : Int32} {cE : jS} (h : xPutter_intoBody 130 c a1 a2 a3 a4 a5 = some (vE, cE)) : jC l D G 134 M_xPutter_intoBody [.ref 23, .int a1, .int a2, .int a3, .int a4, .int a5] (jmix c r) (some (.int vE)) (jmix cE r) := (tg_xPutter_into 130).2.2.1 _ _ _ _ _ _ _ _ _ h

theorem t_xPutter_intoLet {l : Launch} {D : va_G} {G : Nat → ClassId} {c r : jS} {a1 : Int32} {a2 : Int32} {a3 : Int32} {vE : Int32} {cE : jS} (h : xPutter_intoLet 130 c a1 a2 a3 = some (vE, cE)) : jC l D G 134 M_xPutter_intoLet [.ref 23, .int a1, .int a2, .int a3] (jmix c r) (some (.int vE)) (jmix cE r) := (tg_xPutter_into 130).2.2.2.1 _ _ _ _ _ _ _ h

theorem t_xPutter_intoParts {l : Launch} {D : va_G} {G : Nat → ClassId} {c r : jS} {a1 : Int32} {a2 : Int32} {a3 : Int32} {vE : Int32} {cE : jS} (h : xPutter_intoParts 130 c a1 a2 a3 = some (vE, cE)) : jC l D G 134 M_xPutter_intoParts [.ref 23, .int a1, .int a2, .int a3] (jmix c r) (some (.int vE)) (jmix cE r) := (tg_xPutter_into 130).2.2.2.2 _ _ _ _ _ _ _ h

set_option maxHeartbeats 4000000 in
set_option maxRecDepth 100000 in
theorem t_xReader_tapeLength {l : Launch} {D : va_G} {G : Nat → ClassId} {d : Nat} (hdp : 0 ≤ d) {c r : jS} {vE : Int32} (h : xReader_tapeLength c = some vE) : jC l D G d M_xReader_tapeLength [.ref 28] (jmix c r) (some (.int vE)) (jmix c r) := by
  refine jM_of rfl (Nat.le_of_ble_eq_true rfl) ?_
  intro X hl hD hG _ _ hX hE _
  subst hl hD hG
  unfold xReader_tapeLength at h
  show J X 0 0 jN (jE (jmix c r)) [(0, .ref 28)] [] 0
  refine j_aload_n (pc := 0) hX dX4_tapeLength_0 rfl rfl ?_
  refine k_getI (pc := 1) (x := (c 28 3)) hX fl_4_23 dX4_tapeLength_1 rfl rfl rfl ?_
  replace h := Option.some.inj h
  subst h
  exact j_iret (pc := 4) hX hE rfl rfl dX4_tapeLength_4 (Nat.le_refl 0) (Nat.le_refl 0) ⟨rfl, rfl, rfl⟩

set_option maxHeartbeats 4000000 in
set_option maxRecDepth 100000 in
theorem t_xReader_add {l : Launch} {D : va_G} {G : Nat → ClassId} {d : Nat} (hdp : 0 ≤ d) {c r : jS} {a1 : Int32} {cE : jS} (h : xReader_add c a1 = some ((), cE)) : jC l D G d M_xReader_add [.ref 28, .int a1] (jmix c r) none (jmix cE r) := by
  refine jM_of rfl (Nat.le_of_ble_eq_true rfl) ?_
  intro X hl hD hG _ _ hX hE _
  subst hl hD hG
  unfold xReader_add at h
  show J X 0 0 jN (jE (jmix c r)) [(0, .ref 28), (1, .int a1)] [] 0
  refine j_aload_n (pc := 0) hX dX4_add_0 rfl rfl ?_
  refine k_getI (pc := 1) (x := (c 28 3)) hX fl_4_23 dX4_add_1 rfl rfl rfl ?_
  refine j_if_lt (pc := 4) (tgt := 38) hX dX4_add_4 (by decide) (fun z => ?_) (fun z => ?_)
  · replace h := ite_t z h
    obtain ⟨_, h⟩ := Prod.mk.inj (Option.some.inj h)
    subst h
    exact j_vret (pc := 38) hX hE dX4_add_38 (Nat.le_refl 0) (Nat.le_refl 0) ⟨rfl, rfl, rfl⟩
  · replace h := ite_f z h
    refine j_aload_n (pc := 7) hX dX4_add_7 rfl rfl ?_
    refine k_getI (pc := 8) (x := (c 28 3)) hX fl_4_23 dX4_add_8 rfl rfl rfl ?_
    refine j_sipush (pc := 11) (v := (600 : Int32)) hX dX4_add_11 (by decide) ?_
    refine j_icmp_ge (pc := 14) (tgt := 38) hX dX4_add_14 (by decide) (fun z => ?_) (fun z => ?_)
    · replace h := ite_t z h
      obtain ⟨_, h⟩ := Prod.mk.inj (Option.some.inj h)
      subst h
      exact j_vret (pc := 38) hX hE dX4_add_38 (Nat.le_refl 0) (Nat.le_refl 0) ⟨rfl, rfl, rfl⟩
    · replace h := ite_f z h
      refine j_aload_n (pc := 17) hX dX4_add_17 rfl rfl ?_
      refine k_getR (pc := 18) (q := 29) hX fl_4_9 dX4_add_18 rfl rfl ?_
      refine j_aload_n (pc := 21) hX dX4_add_21 rfl rfl ?_
      refine k_getI (pc := 22) (x := (c 28 3)) hX fl_4_23 dX4_add_22 rfl rfl rfl ?_
      refine j_iload_n (pc := 25) hX dX4_add_25 rfl rfl ?_
      refine j_i2b (pc := 26) hX dX4_add_26 ?_
      obtain ⟨hg, h⟩ := gd_some h
      obtain ⟨c1, hc, h⟩ := lt_some h
      refine k_bast (pc := 27) (c' := jmix c1 r) hX dX4_add_27 rfl hg (jmix_xe rfl hc) ?_
      refine j_aload_n (pc := 28) hX dX4_add_28 rfl rfl ?_
      refine j_dup (pc := 29) hX dX4_add_29 rfl ?_
      refine k_getI (pc := 30) (x := (c1 28 3)) hX fl_4_23 dX4_add_30 rfl rfl rfl ?_
      refine j_iconst (pc := 33) (v := (1 : Int32)) hX dX4_add_33 (by decide) ?_
      refine j_iadd (pc := 34) hX dX4_add_34 ?_
      obtain ⟨c2, hc, h⟩ := lt_some h
      refine k_putI (pc := 35) (c' := jmix c2 r) hX pfl_4_23 dX4_add_35 rfl rfl (fun _ => ⟨rfl, rfl⟩) (jmix_xe rfl hc) ?_
      obtain ⟨_, h⟩ := Prod.mk.inj (Option.some.inj h)
      subst h
      exact j_vret (pc := 38) hX hE dX4_add_38 (Nat.le_refl 0) (Nat.le_refl 0) ⟨rfl, rfl, rfl⟩

