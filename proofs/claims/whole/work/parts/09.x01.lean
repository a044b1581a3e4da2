set_option maxHeartbeats 4000000 in
set_option maxRecDepth 100000 in
theorem t_xTerms_has {l : Launch} {D : va_G} {G : Nat → ClassId} {d : Nat} (hdp : 0 ≤ d) {c r : jS} {a1 : Int32} {vE : Int32} (h : xTerms_has c a1 = some vE) : jC l D G d M_xTerms_has [.ref 5, .int a1] (jmix c r) (some (.int vE)) (jmix c r) := by
  refine jM_of rfl (Nat.le_of_ble_eq_true rfl) ?_
  intro X hl hD hG _ _ hX hE _
  subst hl hD hG
  unfold xTerms_has at h
  show J X 0 0 jN (jE (jmix c r)) [(0, .ref 5), (1, .int a1)] [] 0
  refine j_iload_n (pc := 0) hX dX6_has_0 rfl rfl ?_
  refine j_if_lt (pc := 1) (tgt := 23) hX dX6_has_1 (by decide) (fun z => ?_) (fun z => ?_)
  · replace h := ite_t z h
    refine j_iconst (pc := 23) (v := (0 : Int32)) hX dX6_has_23 (by decide) ?_
    replace h := Option.some.inj h
    subst h
    exact j_iret (pc := 24) hX hE rfl rfl dX6_has_24 (Nat.le_refl 0) (Nat.le_refl 0) ⟨rfl, rfl, rfl⟩
  · replace h := ite_f z h
    refine j_iload_n (pc := 4) hX dX6_has_4 rfl rfl ?_
    refine j_aload_n (pc := 5) hX dX6_has_5 rfl rfl ?_
    refine k_getI (pc := 6) (x := (c 5 12)) hX fl_6_49 dX6_has_6 rfl rfl rfl ?_
    refine j_icmp_ge (pc := 9) (tgt := 23) hX dX6_has_9 (by decide) (fun z => ?_) (fun z => ?_)
    · replace h := ite_t z h
      refine j_iconst (pc := 23) (v := (0 : Int32)) hX dX6_has_23 (by decide) ?_
      replace h := Option.some.inj h
      subst h
      exact j_iret (pc := 24) hX hE rfl rfl dX6_has_24 (Nat.le_refl 0) (Nat.le_refl 0) ⟨rfl, rfl, rfl⟩
    · replace h := ite_f z h
      refine j_iload_n (pc := 12) hX dX6_has_12 rfl rfl ?_
      refine j_sipush (pc := 13) (v := (400 : Int32)) hX dX6_has_13 (by decide) ?_
      refine j_icmp_ge (pc := 16) (tgt := 23) hX dX6_has_16 (by decide) (fun z => ?_) (fun z => ?_)
      · replace h := ite_t z h
        refine j_iconst (pc := 23) (v := (0 : Int32)) hX dX6_has_23 (by decide) ?_
        replace h := Option.some.inj h
        subst h
        exact j_iret (pc := 24) hX hE rfl rfl dX6_has_24 (Nat.le_refl 0) (Nat.le_refl 0) ⟨rfl, rfl, rfl⟩
      · replace h := ite_f z h
        refine j_iconst (pc := 19) (v := (1 : Int32)) hX dX6_has_19 (by decide) ?_
        refine j_goto (pc := 20) (tgt := 24) hX dX6_has_20 (by decide) ?_
        replace h := Option.some.inj h
        subst h
        exact j_iret (pc := 24) hX hE rfl rfl dX6_has_24 (Nat.le_refl 0) (Nat.le_refl 0) ⟨rfl, rfl, rfl⟩

set_option maxHeartbeats 4000000 in
set_option maxRecDepth 100000 in
theorem t_xTerms_kindOf {l : Launch} {D : va_G} {G : Nat → ClassId} {d : Nat} (hdp : 1 ≤ d) {c r : jS} {a1 : Int32} {vE : Int32} (h : xTerms_kindOf c a1 = some vE) : jC l D G d M_xTerms_kindOf [.ref 5, .int a1] (jmix c r) (some (.int vE)) (jmix c r) := by
  refine jM_of rfl (Nat.le_of_ble_eq_true rfl) ?_
  intro X hl hD hG _ _ hX hE _
  subst hl hD hG
  unfold xTerms_kindOf at h
  show J X 0 0 jN (jE (jmix c r)) [(0, .ref 5), (1, .int a1)] [] 0
  refine j_aload_n (pc := 0) hX dX6_kindOf_0 rfl rfl ?_
  refine j_iload_n (pc := 1) hX dX6_kindOf_1 rfl rfl ?_
  obtain ⟨r1, h1, h⟩ := ob_some h
  refine k_callVI (pc := 2) (st := []) hX ln_6_53 dX6_kindOf_2 (t_xTerms_has (d := 0) (Nat.le_refl _) h1) rfl rfl rfl (by omega) (Nat.le_of_ble_eq_true rfl) ?_
  refine j_if_eq (pc := 5) (tgt := 17) hX dX6_kindOf_5 (by decide) (fun z => ?_) (fun z => ?_)
  · replace h := ite_t z h
    refine j_bipush (pc := 17) (v := (-2 : Int32)) hX dX6_kindOf_17 (by decide) ?_
    replace h := Option.some.inj h
    subst h
    exact j_iret (pc := 19) hX hE rfl rfl dX6_kindOf_19 (Nat.le_refl 0) (Nat.le_refl 0) ⟨rfl, rfl, rfl⟩
  · replace h := ite_f z h
    refine j_aload_n (pc := 8) hX dX6_kindOf_8 rfl rfl ?_
    refine k_getR (pc := 9) (q := 6) hX fl_6_9 dX6_kindOf_9 rfl rfl ?_
    refine j_iload_n (pc := 12) hX dX6_kindOf_12 rfl rfl ?_
    obtain ⟨hg, h⟩ := gd_some h
    refine k_iald (pc := 13) (x := (c 6 (a1).toNatClampNeg)) hX dX6_kindOf_13 rfl hg rfl ?_
    refine j_goto (pc := 14) (tgt := 19) hX dX6_kindOf_14 (by decide) ?_
    replace h := Option.some.inj h
    subst h
    exact j_iret (pc := 19) hX hE rfl rfl dX6_kindOf_19 (Nat.le_refl 0) (Nat.le_refl 0) ⟨rfl, rfl, rfl⟩

set_option maxHeartbeats 4000000 in
set_option maxRecDepth 100000 in
theorem t_xTerms_sizeOf {l : Launch} {D : va_G} {G : Nat → ClassId} {d : Nat} (hdp : 1 ≤ d) {c r : jS} {a1 : Int32} {vE : Int32} (h : xTerms_sizeOf c a1 = some vE) : jC l D G d M_xTerms_sizeOf [.ref 5, .int a1] (jmix c r) (some (.int vE)) (jmix c r) := by
  refine jM_of rfl (Nat.le_of_ble_eq_true rfl) ?_
  intro X hl hD hG _ _ hX hE _
  subst hl hD hG
  unfold xTerms_sizeOf at h
  show J X 0 0 jN (jE (jmix c r)) [(0, .ref 5), (1, .int a1)] [] 0
  refine j_aload_n (pc := 0) hX dX6_sizeOf_0 rfl rfl ?_
  refine j_iload_n (pc := 1) hX dX6_sizeOf_1 rfl rfl ?_
  obtain ⟨r1, h1, h⟩ := ob_some h
  refine k_callVI (pc := 2) (st := []) hX ln_6_53 dX6_sizeOf_2 (t_xTerms_has (d := 0) (Nat.le_refl _) h1) rfl rfl rfl (by omega) (Nat.le_of_ble_eq_true rfl) ?_
  refine j_if_eq (pc := 5) (tgt := 17) hX dX6_sizeOf_5 (by decide) (fun z => ?_) (fun z => ?_)
  · replace h := ite_t z h
    refine j_iconst (pc := 17) (v := (0 : Int32)) hX dX6_sizeOf_17 (by decide) ?_
    replace h := Option.some.inj h
    subst h
    exact j_iret (pc := 18) hX hE rfl rfl dX6_sizeOf_18 (Nat.le_refl 0) (Nat.le_refl 0) ⟨rfl, rfl, rfl⟩
  · replace h := ite_f z h
    refine j_aload_n (pc := 8) hX dX6_sizeOf_8 rfl rfl ?_
    refine k_getR (pc := 9) (q := 13) hX fl_6_33 dX6_sizeOf_9 rfl rfl ?_
    refine j_iload_n (pc := 12) hX dX6_sizeOf_12 rfl rfl ?_
    obtain ⟨hg, h⟩ := gd_some h
    refine k_iald (pc := 13) (x := (c 13 (a1).toNatClampNeg)) hX dX6_sizeOf_13 rfl hg rfl ?_
    refine j_goto (pc := 14) (tgt := 18) hX dX6_sizeOf_14 (by decide) ?_
    replace h := Option.some.inj h
    subst h
    exact j_iret (pc := 18) hX hE rfl rfl dX6_sizeOf_18 (Nat.le_refl 0) (Nat.le_refl 0) ⟨rfl, rfl, rfl⟩

set_option maxHeartbeats 4000000 in
set_option maxRecDepth 100000 in
theorem t_xTerms_numberOf {l : Launch} {D : va_G} {G : Nat → ClassId} {d : Nat} (hdp : 1 ≤ d) {c r : jS} {a1 : Int32} {vE : Int32} (h : xTerms_numberOf c a1 = some vE) : jC l D G d M_xTerms_numberOf [.ref 5, .int a1] (jmix c r) (some (.int vE)) (jmix c r) := by
  refine jM_of rfl (Nat.le_of_ble_eq_true rfl) ?_
  intro X hl hD hG _ _ hX hE _
  subst hl hD hG
  unfold xTerms_numberOf at h
  show J X 0 0 jN (jE (jmix c r)) [(0, .ref 5), (1, .int a1)] [] 0
  refine j_aload_n (pc := 0) hX dX6_numberOf_0 rfl rfl ?_
  refine j_iload_n (pc := 1) hX dX6_numberOf_1 rfl rfl ?_
  obtain ⟨r1, h1, h⟩ := ob_some h
  refine k_callVI (pc := 2) (st := []) hX ln_6_53 dX6_numberOf_2 (t_xTerms_has (d := 0) (Nat.le_refl _) h1) rfl rfl rfl (by omega) (Nat.le_of_ble_eq_true rfl) ?_
  refine j_if_eq (pc := 5) (tgt := 17) hX dX6_numberOf_5 (by decide) (fun z => ?_) (fun z => ?_)
  · replace h := ite_t z h
    refine j_iconst (pc := 17) (v := (0 : Int32)) hX dX6_numberOf_17 (by decide) ?_
    replace h := Option.some.inj h
    subst h
    exact j_iret (pc := 18) hX hE rfl rfl dX6_numberOf_18 (Nat.le_refl 0) (Nat.le_refl 0) ⟨rfl, rfl, rfl⟩
  · replace h := ite_f z h
    refine j_aload_n (pc := 8) hX dX6_numberOf_8 rfl rfl ?_
    refine k_getR (pc := 9) (q := 7) hX fl_6_15 dX6_numberOf_9 rfl rfl ?_
    refine j_iload_n (pc := 12) hX dX6_numberOf_12 rfl rfl ?_
    obtain ⟨hg, h⟩ := gd_some h
    refine k_iald (pc := 13) (x := (c 7 (a1).toNatClampNeg)) hX dX6_numberOf_13 rfl hg rfl ?_
    refine j_goto (pc := 14) (tgt := 18) hX dX6_numberOf_14 (by decide) ?_
    replace h := Option.some.inj h
    subst h
    exact j_iret (pc := 18) hX hE rfl rfl dX6_numberOf_18 (Nat.le_refl 0) (Nat.le_refl 0) ⟨rfl, rfl, rfl⟩

set_option maxHeartbeats 4000000 in
set_option maxRecDepth 100000 in
theorem t_xTerms_letterOf {l : Launch} {D : va_G} {G : Nat → ClassId} {d : Nat} (hdp : 1 ≤ d) {c r : jS} {a1 : Int32} {vE : Int32} (h : xTerms_letterOf c a1 = some vE) : jC l D G d M_xTerms_letterOf [.ref 5, .int a1] (jmix c r) (some (.int vE)) (jmix c r) := by
  refine jM_of rfl (Nat.le_of_ble_eq_true rfl) ?_
  intro X hl hD hG _ _ hX hE _
  subst hl hD hG
  unfold xTerms_letterOf at h
  show J X 0 0 jN (jE (jmix c r)) [(0, .ref 5), (1, .int a1)] [] 0
  refine j_aload_n (pc := 0) hX dX6_letterOf_0 rfl rfl ?_
  refine j_iload_n (pc := 1) hX dX6_letterOf_1 rfl rfl ?_
  obtain ⟨r1, h1, h⟩ := ob_some h
  refine k_callVI (pc := 2) (st := []) hX ln_6_53 dX6_letterOf_2 (t_xTerms_has (d := 0) (Nat.le_refl _) h1) rfl rfl rfl (by omega) (Nat.le_of_ble_eq_true rfl) ?_
  refine j_if_eq (pc := 5) (tgt := 17) hX dX6_letterOf_5 (by decide) (fun z => ?_) (fun z => ?_)
  · replace h := ite_t z h
    refine j_bipush (pc := 17) (v := (-2 : Int32)) hX dX6_letterOf_17 (by decide) ?_
    replace h := Option.some.inj h
    subst h
    exact j_iret (pc := 19) hX hE rfl rfl dX6_letterOf_19 (Nat.le_refl 0) (Nat.le_refl 0) ⟨rfl, rfl, rfl⟩
  · replace h := ite_f z h
    refine j_aload_n (pc := 8) hX dX6_letterOf_8 rfl rfl ?_
    refine k_getR (pc := 9) (q := 8) hX fl_6_18 dX6_letterOf_9 rfl rfl ?_
    refine j_iload_n (pc := 12) hX dX6_letterOf_12 rfl rfl ?_
    obtain ⟨hg, h⟩ := gd_some h
    refine k_iald (pc := 13) (x := (c 8 (a1).toNatClampNeg)) hX dX6_letterOf_13 rfl hg rfl ?_
    refine j_goto (pc := 14) (tgt := 19) hX dX6_letterOf_14 (by decide) ?_
    replace h := Option.some.inj h
    subst h
    exact j_iret (pc := 19) hX hE rfl rfl dX6_letterOf_19 (Nat.le_refl 0) (Nat.le_refl 0) ⟨rfl, rfl, rfl⟩

set_option maxHeartbeats 4000000 in
set_option maxRecDepth 100000 in
theorem t_xc_isLetter {l : Launch} {D : va_G} {G : Nat → ClassId} {d : Nat} (hdp : 0 ≤ d) {c r : jS} {a0 : Int32} {vE : Int32} (h : xc_isLetter c a0 = some vE) : jC l D G d M_xc_isLetter [.int a0] (jmix c r) (some (.int vE)) (jmix c r) := by
  refine jM_of rfl (Nat.le_of_ble_eq_true rfl) ?_
  intro X hl hD hG _ _ hX hE _
  subst hl hD hG
  unfold xc_isLetter at h
  show J X 0 0 jN (jE (jmix c r)) [(0, .int a0)] [] 0
  refine j_iload_n (pc := 0) hX dX9_isLetter_0 rfl rfl ?_
  refine j_if_lt (pc := 1) (tgt := 14) hX dX9_isLetter_1 (by decide) (fun z => ?_) (fun z => ?_)
  · replace h := ite_t z h
    refine j_iconst (pc := 14) (v := (0 : Int32)) hX dX9_isLetter_14 (by decide) ?_
    replace h := Option.some.inj h
    subst h
    exact j_iret (pc := 15) hX hE rfl rfl dX9_isLetter_15 (Nat.le_refl 0) (Nat.le_refl 0) ⟨rfl, rfl, rfl⟩
  · replace h := ite_f z h
    refine j_iload_n (pc := 4) hX dX9_isLetter_4 rfl rfl ?_
    refine j_bipush (pc := 5) (v := (26 : Int32)) hX dX9_isLetter_5 (by decide) ?_
    refine j_icmp_ge (pc := 7) (tgt := 14) hX dX9_isLetter_7 (by decide) (fun z => ?_) (fun z => ?_)
    · replace h := ite_t z h
      refine j_iconst (pc := 14) (v := (0 : Int32)) hX dX9_isLetter_14 (by decide) ?_
      replace h := Option.some.inj h
      subst h
      exact j_iret (pc := 15) hX hE rfl rfl dX9_isLetter_15 (Nat.le_refl 0) (Nat.le_refl 0) ⟨rfl, rfl, rfl⟩
    · replace h := ite_f z h
      refine j_iconst (pc := 10) (v := (1 : Int32)) hX dX9_isLetter_10 (by decide) ?_
      refine j_goto (pc := 11) (tgt := 15) hX dX9_isLetter_11 (by decide) ?_
      replace h := Option.some.inj h
      subst h
      exact j_iret (pc := 15) hX hE rfl rfl dX9_isLetter_15 (Nat.le_refl 0) (Nat.le_refl 0) ⟨rfl, rfl, rfl⟩

set_option maxHeartbeats 4000000 in
set_option maxRecDepth 100000 in
theorem t_xComparer_sameName {l : Launch} {D : va_G} {G : Nat → ClassId} {d : Nat} (hdp : 1 ≤ d) {c r : jS} {a1 : Int32} {a2 : Int32} {vE : Int32} (h : xComparer_sameName c a1 a2 = some vE) : jC l D G d M_xComparer_sameName [.ref 20, .int a1, .int a2] (jmix c r) (some (.int vE)) (jmix c r) := by
  refine jM_of rfl (Nat.le_of_ble_eq_true rfl) ?_
  intro X hl hD hG _ _ hX hE _
  subst hl hD hG
  unfold xComparer_sameName at h
  show J X 0 0 jN (jE (jmix c r)) [(0, .ref 20), (1, .int a1), (2, .int a2)] [] 0
  refine j_iload_n (pc := 0) hX dX0_sameName_0 rfl rfl ?_
  obtain ⟨r1, h1, h⟩ := ob_some h
  refine k_callNI (pc := 1) (st := []) hX ln_0_61 dX0_sameName_1 (t_xc_isLetter (d := 0) (Nat.le_refl _) h1) rfl rfl (by omega) (Nat.le_of_ble_eq_true rfl) ?_
  refine j_if_eq (pc := 4) (tgt := 29) hX dX0_sameName_4 (by decide) (fun z => ?_) (fun z => ?_)
  · replace h := ite_t z h
    refine j_iconst (pc := 29) (v := (0 : Int32)) hX dX0_sameName_29 (by decide) ?_
    replace h := Option.some.inj h
    subst h
    exact j_iret (pc := 30) hX hE rfl rfl dX0_sameName_30 (Nat.le_refl 0) (Nat.le_refl 0) ⟨rfl, rfl, rfl⟩
  · replace h := ite_f z h
    refine j_iload_n (pc := 7) hX dX0_sameName_7 rfl rfl ?_
    obtain ⟨r2, h1, h⟩ := ob_some h
    refine k_callNI (pc := 8) (st := []) hX ln_0_61 dX0_sameName_8 (t_xc_isLetter (d := 0) (Nat.le_refl _) h1) rfl rfl (by omega) (Nat.le_of_ble_eq_true rfl) ?_
    refine j_if_eq (pc := 11) (tgt := 29) hX dX0_sameName_11 (by decide) (fun z => ?_) (fun z => ?_)
    · replace h := ite_t z h
      refine j_iconst (pc := 29) (v := (0 : Int32)) hX dX0_sameName_29 (by decide) ?_
      replace h := Option.some.inj h
      subst h
      exact j_iret (pc := 30) hX hE rfl rfl dX0_sameName_30 (Nat.le_refl 0) (Nat.le_refl 0) ⟨rfl, rfl, rfl⟩
    · replace h := ite_f z h
      refine j_aload_n (pc := 14) hX dX0_sameName_14 rfl rfl ?_
      refine k_getR (pc := 15) (q := 21) hX fl_0_9 dX0_sameName_15 rfl rfl ?_
      refine j_iload_n (pc := 18) hX dX0_sameName_18 rfl rfl ?_
      obtain ⟨hg, h⟩ := gd_some h
      refine k_iald (pc := 19) (x := (c 21 (a1).toNatClampNeg)) hX dX0_sameName_19 rfl hg rfl ?_
      refine j_aload_n (pc := 20) hX dX0_sameName_20 rfl rfl ?_
      refine k_getR (pc := 21) (q := 22) hX fl_0_15 dX0_sameName_21 rfl rfl ?_
      refine j_iload_n (pc := 24) hX dX0_sameName_24 rfl rfl ?_
      obtain ⟨hg, h⟩ := gd_some h
      refine k_iald (pc := 25) (x := (c 22 (a2).toNatClampNeg)) hX dX0_sameName_25 rfl hg rfl ?_
      refine j_icmp_eq (pc := 26) (tgt := 31) hX dX0_sameName_26 (by decide) (fun z => ?_) (fun z => ?_)
      · replace h := ite_t z h
        refine j_aload_n (pc := 31) hX dX0_sameName_31 rfl rfl ?_
        refine k_getR (pc := 32) (q := 21) hX fl_0_9 dX0_sameName_32 rfl rfl ?_
        refine j_iload_n (pc := 35) hX dX0_sameName_35 rfl rfl ?_
        obtain ⟨hg, h⟩ := gd_some h
        refine k_iald (pc := 36) (x := (c 21 (a1).toNatClampNeg)) hX dX0_sameName_36 rfl hg rfl ?_
        refine j_bipush (pc := 37) (v := (-2 : Int32)) hX dX0_sameName_37 (by decide) ?_
        refine j_icmp_ne (pc := 39) (tgt := 47) hX dX0_sameName_39 (by decide) (fun z => ?_) (fun z => ?_)
        · replace h := ite_f z h
          refine j_iconst (pc := 47) (v := (1 : Int32)) hX dX0_sameName_47 (by decide) ?_
          refine j_goto (pc := 48) (tgt := 52) hX dX0_sameName_48 (by decide) ?_
          replace h := Option.some.inj h
          subst h
          exact j_iret (pc := 52) hX hE rfl rfl dX0_sameName_52 (Nat.le_refl 0) (Nat.le_refl 0) ⟨rfl, rfl, rfl⟩
        · replace h := ite_t z h
          refine j_iload_n (pc := 42) hX dX0_sameName_42 rfl rfl ?_
          refine j_iload_n (pc := 43) hX dX0_sameName_43 rfl rfl ?_
          refine j_icmp_ne (pc := 44) (tgt := 51) hX dX0_sameName_44 (by decide) (fun z => ?_) (fun z => ?_)
          · replace h := ite_f z h
            refine j_iconst (pc := 51) (v := (0 : Int32)) hX dX0_sameName_51 (by decide) ?_
            replace h := Option.some.inj h
            subst h
            exact j_iret (pc := 52) hX hE rfl rfl dX0_sameName_52 (Nat.le_refl 0) (Nat.le_refl 0) ⟨rfl, rfl, rfl⟩
          · replace h := ite_t z h
            refine j_iconst (pc := 47) (v := (1 : Int32)) hX dX0_sameName_47 (by decide) ?_
            refine j_goto (pc := 48) (tgt := 52) hX dX0_sameName_48 (by decide) ?_
            replace h := Option.some.inj h
            subst h
            exact j_iret (pc := 52) hX hE rfl rfl dX0_sameName_52 (Nat.le_refl 0) (Nat.le_refl 0) ⟨rfl, rfl, rfl⟩
      · replace h := ite_f z h
        refine j_iconst (pc := 29) (v := (0 : Int32)) hX dX0_sameName_29 (by decide) ?_
        replace h := Option.some.inj h
        subst h
        exact j_iret (pc := 30) hX hE rfl rfl dX0_sameName_30 (Nat.le_refl 0) (Nat.le_refl 0) ⟨rfl, rfl, rfl⟩

set_option maxHeartbeats 4000000 in
set_option maxRecDepth 100000 in
theorem t_xTerms_typeOf {l : Launch} {D : va_G} {G : Nat → ClassId} {d : Nat} (hdp : 1 ≤ d) {c r : jS} {a1 : Int32} {vE : Int32} (h : xTerms_typeOf c a1 = some vE) : jC l D G d M_xTerms_typeOf [.ref 5, .int a1] (jmix c r) (some (.int vE)) (jmix c r) := by
  refine jM_of rfl (Nat.le_of_ble_eq_true rfl) ?_
  intro X hl hD hG _ _ hX hE _
  subst hl hD hG
  unfold xTerms_typeOf at h
  show J X 0 0 jN (jE (jmix c r)) [(0, .ref 5), (1, .int a1)] [] 0
  refine j_aload_n (pc := 0) hX dX6_typeOf_0 rfl rfl ?_
  refine j_iload_n (pc := 1) hX dX6_typeOf_1 rfl rfl ?_
  obtain ⟨r1, h1, h⟩ := ob_some h
  refine k_callVI (pc := 2) (st := []) hX ln_6_53 dX6_typeOf_2 (t_xTerms_has (d := 0) (Nat.le_refl _) h1) rfl rfl rfl (by omega) (Nat.le_of_ble_eq_true rfl) ?_
  refine j_if_eq (pc := 5) (tgt := 17) hX dX6_typeOf_5 (by decide) (fun z => ?_) (fun z => ?_)
  · replace h := ite_t z h
    refine j_bipush (pc := 17) (v := (-2 : Int32)) hX dX6_typeOf_17 (by decide) ?_
    replace h := Option.some.inj h
    subst h
    exact j_iret (pc := 19) hX hE rfl rfl dX6_typeOf_19 (Nat.le_refl 0) (Nat.le_refl 0) ⟨rfl, rfl, rfl⟩
  · replace h := ite_f z h
    refine j_aload_n (pc := 8) hX dX6_typeOf_8 rfl rfl ?_
    refine k_getR (pc := 9) (q := 9) hX fl_6_21 dX6_typeOf_9 rfl rfl ?_
    refine j_iload_n (pc := 12) hX dX6_typeOf_12 rfl rfl ?_
    obtain ⟨hg, h⟩ := gd_some h
    refine k_iald (pc := 13) (x := (c 9 (a1).toNatClampNeg)) hX dX6_typeOf_13 rfl hg rfl ?_
    refine j_goto (pc := 14) (tgt := 19) hX dX6_typeOf_14 (by decide) ?_
    replace h := Option.some.inj h
    subst h
    exact j_iret (pc := 19) hX hE rfl rfl dX6_typeOf_19 (Nat.le_refl 0) (Nat.le_refl 0) ⟨rfl, rfl, rfl⟩

set_option maxHeartbeats 4000000 in
set_option maxRecDepth 100000 in
theorem t_xTerms_firstOf {l : Launch} {D : va_G} {G : Nat → ClassId} {d : Nat} (hdp : 1 ≤ d) {c r : jS} {a1 : Int32} {vE : Int32} (h : xTerms_firstOf c a1 = some vE) : jC l D G d M_xTerms_firstOf [.ref 5, .int a1] (jmix c r) (some (.int vE)) (jmix c r) := by
  refine jM_of rfl (Nat.le_of_ble_eq_true rfl) ?_
  intro X hl hD hG _ _ hX hE _
  subst hl hD hG
  unfold xTerms_firstOf at h
  show J X 0 0 jN (jE (jmix c r)) [(0, .ref 5), (1, .int a1)] [] 0
  refine j_aload_n (pc := 0) hX dX6_firstOf_0 rfl rfl ?_
  refine j_iload_n (pc := 1) hX dX6_firstOf_1 rfl rfl ?_
  obtain ⟨r1, h1, h⟩ := ob_some h
  refine k_callVI (pc := 2) (st := []) hX ln_6_53 dX6_firstOf_2 (t_xTerms_has (d := 0) (Nat.le_refl _) h1) rfl rfl rfl (by omega) (Nat.le_of_ble_eq_true rfl) ?_
  refine j_if_eq (pc := 5) (tgt := 17) hX dX6_firstOf_5 (by decide) (fun z => ?_) (fun z => ?_)
  · replace h := ite_t z h
    refine j_bipush (pc := 17) (v := (-2 : Int32)) hX dX6_firstOf_17 (by decide) ?_
    replace h := Option.some.inj h
    subst h
    exact j_iret (pc := 19) hX hE rfl rfl dX6_firstOf_19 (Nat.le_refl 0) (Nat.le_refl 0) ⟨rfl, rfl, rfl⟩
  · replace h := ite_f z h
    refine j_aload_n (pc := 8) hX dX6_firstOf_8 rfl rfl ?_
    refine k_getR (pc := 9) (q := 10) hX fl_6_24 dX6_firstOf_9 rfl rfl ?_
    refine j_iload_n (pc := 12) hX dX6_firstOf_12 rfl rfl ?_
    obtain ⟨hg, h⟩ := gd_some h
    refine k_iald (pc := 13) (x := (c 10 (a1).toNatClampNeg)) hX dX6_firstOf_13 rfl hg rfl ?_
    refine j_goto (pc := 14) (tgt := 19) hX dX6_firstOf_14 (by decide) ?_
    replace h := Option.some.inj h
    subst h
    exact j_iret (pc := 19) hX hE rfl rfl dX6_firstOf_19 (Nat.le_refl 0) (Nat.le_refl 0) ⟨rfl, rfl, rfl⟩

set_option maxHeartbeats 4000000 in
set_option maxRecDepth 100000 in
theorem t_xTerms_secondOf {l : Launch} {D : va_G} {G : Nat → ClassId} {d : Nat} (hdp : 1 ≤ d) {c r : jS} {a1 : Int32} {vE : Int32} (h : xTerms_secondOf c a1 = some vE) : jC l D G d M_xTerms_secondOf [.ref 5, .int a1] (jmix c r) (some (.int vE)) (jmix c r) := by
  refine jM_of rfl (Nat.le_of_ble_eq_true rfl) ?_
  intro X hl hD hG _ _ hX hE _
  subst hl hD hG
  unfold xTerms_secondOf at h
  show J X 0 0 jN (jE (jmix c r)) [(0, .ref 5), (1, .int a1)] [] 0
  refine j_aload_n (pc := 0) hX dX6_secondOf_0 rfl rfl ?_
  refine j_iload_n (pc := 1) hX dX6_secondOf_1 rfl rfl ?_
  obtain ⟨r1, h1, h⟩ := ob_some h
  refine k_callVI (pc := 2) (st := []) hX ln_6_53 dX6_secondOf_2 (t_xTerms_has (d := 0) (Nat.le_refl _) h1) rfl rfl rfl (by omega) (Nat.le_of_ble_eq_true rfl) ?_
  refine j_if_eq (pc := 5) (tgt := 17) hX dX6_secondOf_5 (by decide) (fun z => ?_) (fun z => ?_)
  · replace h := ite_t z h
    refine j_bipush (pc := 17) (v := (-2 : Int32)) hX dX6_secondOf_17 (by decide) ?_
    replace h := Option.some.inj h
    subst h
    exact j_iret (pc := 19) hX hE rfl rfl dX6_secondOf_19 (Nat.le_refl 0) (Nat.le_refl 0) ⟨rfl, rfl, rfl⟩
  · replace h := ite_f z h
    refine j_aload_n (pc := 8) hX dX6_secondOf_8 rfl rfl ?_
    refine k_getR (pc := 9) (q := 11) hX fl_6_27 dX6_secondOf_9 rfl rfl ?_
    refine j_iload_n (pc := 12) hX dX6_secondOf_12 rfl rfl ?_
    obtain ⟨hg, h⟩ := gd_some h
    refine k_iald (pc := 13) (x := (c 11 (a1).toNatClampNeg)) hX dX6_secondOf_13 rfl hg rfl ?_
    refine j_goto (pc := 14) (tgt := 19) hX dX6_secondOf_14 (by decide) ?_
    replace h := Option.some.inj h
    subst h
    exact j_iret (pc := 19) hX hE rfl rfl dX6_secondOf_19 (Nat.le_refl 0) (Nat.le_refl 0) ⟨rfl, rfl, rfl⟩

set_option maxHeartbeats 4000000 in
set_option maxRecDepth 100000 in
theorem t_xTerms_thirdOf {l : Launch} {D : va_G} {G : Nat → ClassId} {d : Nat} (hdp : 1 ≤ d) {c r : jS} {a1 : Int32} {vE : Int32} (h : xTerms_thirdOf c a1 = some vE) : jC l D G d M_xTerms_thirdOf [.ref 5, .int a1] (jmix c r) (some (.int vE)) (jmix c r) := by
  refine jM_of rfl (Nat.le_of_ble_eq_true rfl) ?_
  intro X hl hD hG _ _ hX hE _
  subst hl hD hG
  unfold xTerms_thirdOf at h
  show J X 0 0 jN (jE (jmix c r)) [(0, .ref 5), (1, .int a1)] [] 0
  refine j_aload_n (pc := 0) hX dX6_thirdOf_0 rfl rfl ?_
  refine j_iload_n (pc := 1) hX dX6_thirdOf_1 rfl rfl ?_
  obtain ⟨r1, h1, h⟩ := ob_some h
  refine k_callVI (pc := 2) (st := []) hX ln_6_53 dX6_thirdOf_2 (t_xTerms_has (d := 0) (Nat.le_refl _) h1) rfl rfl rfl (by omega) (Nat.le_of_ble_eq_true rfl) ?_
  refine j_if_eq (pc := 5) (tgt := 17) hX dX6_thirdOf_5 (by decide) (fun z => ?_) (fun z => ?_)
  · replace h := ite_t z h
    refine j_bipush (pc := 17) (v := (-2 : Int32)) hX dX6_thirdOf_17 (by decide) ?_
    replace h := Option.some.inj h
    subst h
    exact j_iret (pc := 19) hX hE rfl rfl dX6_thirdOf_19 (Nat.le_refl 0) (Nat.le_refl 0) ⟨rfl, rfl, rfl⟩
  · replace h := ite_f z h
    refine j_aload_n (pc := 8) hX dX6_thirdOf_8 rfl rfl ?_
    refine k_getR (pc := 9) (q := 12) hX fl_6_30 dX6_thirdOf_9 rfl rfl ?_
    refine j_iload_n (pc := 12) hX dX6_thirdOf_12 rfl rfl ?_
    obtain ⟨hg, h⟩ := gd_some h
    refine k_iald (pc := 13) (x := (c 12 (a1).toNatClampNeg)) hX dX6_thirdOf_13 rfl hg rfl ?_
    refine j_goto (pc := 14) (tgt := 19) hX dX6_thirdOf_14 (by decide) ?_
    replace h := Option.some.inj h
    subst h
    exact j_iret (pc := 19) hX hE rfl rfl dX6_thirdOf_19 (Nat.le_refl 0) (Nat.le_refl 0) ⟨rfl, rfl, rfl⟩

set_option maxHeartbeats 4000000 in
set_option maxRecDepth 100000 in
theorem tb_xComparer_same {l : Launch} {D : va_G} {G : Nat → ClassId} {d : Nat} {e : Nat} {F_same : jS → Int32 → Int32 → Int32 → Option (Int32 × jS)} {F_sameUnder : jS → Int32 → Int32 → Int32 → Int32 → Int32 → Option (Int32 × jS)} (i0 : ∀ (c r : jS) (a1 : Int32) (a2 : Int32) (a3 : Int32) (vE : Int32) (cE : jS), F_same c a1 a2 a3 = some (vE, cE) → jC l D G e M_xComparer_same [.ref 20, .int a1, .int a2, .int a3] (jmix c r) (some (.int vE)) (jmix cE r)) (i1 : ∀ (c r : jS) (a1 : Int32) (a2 : Int32) (a3 : Int32) (a4 : Int32) (a5 : Int32) (vE : Int32) (cE : jS), F_sameUnder c a1 a2 a3 a4 a5 = some (vE, cE) → jC l D G e M_xComparer_sameUnder [.ref 20, .int a1, .int a2, .int a3, .int a4, .int a5] (jmix c r) (some (.int vE)) (jmix cE r)) (hdp : 2 ≤ d) (hde : e + 1 ≤ d) {c r : jS} {a1 : Int32} {a2 : Int32} {a3 : Int32} {vE : Int32} {cE : jS} (h : b_xComparer_same F_same F_sameUnder c a1 a2 a3 = some (vE, cE)) : jC l D G d M_xComparer_same [.ref 20, .int a1, .int a2, .int a3] (jmix c r) (some (.int vE)) (jmix cE r) := by
  refine jM_of rfl (Nat.le_of_ble_eq_true rfl) ?_
  intro X hl hD hG _ _ hX hE _
  subst hl hD hG
  unfold b_xComparer_same at h
  show J X 0 0 jN (jE (jmix c r)) [(0, .ref 20), (1, .int a1), (2, .int a2), (3, .int a3)] [] 0
  refine j_aload_n (pc := 0) hX dX0_same_0 rfl rfl ?_
  refine k_getR (pc := 1) (q := 5) hX fl_0_18 dX0_same_1 rfl rfl ?_
  refine j_iload_n (pc := 4) hX dX0_same_4 rfl rfl ?_
  obtain ⟨r1, h1, h⟩ := ob_some h
  refine k_callVI (pc := 5) (st := []) hX ln_0_26 dX0_same_5 (t_xTerms_kindOf (d := 1) (Nat.le_refl _) h1) rfl rfl rfl (by omega) (Nat.le_of_ble_eq_true rfl) ?_
  refine j_istore (pc := 8) hX dX0_same_8 (by decide) (by decide) ?_
  refine j_iload (pc := 10) hX dX0_same_10 rfl ?_
  refine j_aload_n (pc := 12) hX dX0_same_12 rfl rfl ?_
  refine k_getR (pc := 13) (q := 5) hX fl_0_18 dX0_same_13 rfl rfl ?_
  refine j_iload_n (pc := 16) hX dX0_same_16 rfl rfl ?_
  obtain ⟨r2, h1, h⟩ := ob_some h
  refine k_callVI (pc := 17) (st := [.int r1]) hX ln_0_26 dX0_same_17 (t_xTerms_kindOf (d := 1) (Nat.le_refl _) h1) rfl rfl rfl (by omega) (Nat.le_of_ble_eq_true rfl) ?_
  refine j_icmp_ne (pc := 20) (tgt := 42) hX dX0_same_20 (by decide) (fun z => ?_) (fun z => ?_)
  · replace h := ite_f z h
    refine j_iconst (pc := 42) (v := (0 : Int32)) hX dX0_same_42 (by decide) ?_
    obtain ⟨h, h0⟩ := Prod.mk.inj (Option.some.inj h)
    subst h h0
    exact j_iret (pc := 43) hX hE rfl rfl dX0_same_43 (Nat.le_refl 0) (Nat.le_refl 0) ⟨rfl, rfl, rfl⟩
  · replace h := ite_t z h
    refine j_aload_n (pc := 23) hX dX0_same_23 rfl rfl ?_
    refine k_getR (pc := 24) (q := 5) hX fl_0_18 dX0_same_24 rfl rfl ?_
    refine j_iload_n (pc := 27) hX dX0_same_27 rfl rfl ?_
    obtain ⟨r3, h1, h⟩ := ob_some h
    refine k_callVI (pc := 28) (st := []) hX ln_0_32 dX0_same_28 (t_xTerms_sizeOf (d := 1) (Nat.le_refl _) h1) rfl rfl rfl (by omega) (Nat.le_of_ble_eq_true rfl) ?_
    refine j_aload_n (pc := 31) hX dX0_same_31 rfl rfl ?_
    refine k_getR (pc := 32) (q := 5) hX fl_0_18 dX0_same_32 rfl rfl ?_
    refine j_iload_n (pc := 35) hX dX0_same_35 rfl rfl ?_
    obtain ⟨r4, h1, h⟩ := ob_some h
    refine k_callVI (pc := 36) (st := [.int r3]) hX ln_0_32 dX0_same_36 (t_xTerms_sizeOf (d := 1) (Nat.le_refl _) h1) rfl rfl rfl (by omega) (Nat.le_of_ble_eq_true rfl) ?_
    refine j_icmp_eq (pc := 39) (tgt := 44) hX dX0_same_39 (by decide) (fun z => ?_) (fun z => ?_)
    · replace h := ite_t z h
      refine j_iload (pc := 44) hX dX0_same_44 rfl ?_
      by_cases z0 : r1 = 0
      · replace h := ite_t z0 h
        refine j_tabEq (pc := 46) (tgt := 88) 0 hX dX0_same_46 z0 (by decide) (by decide) rfl (by decide) ?_
        refine j_aload_n (pc := 88) hX dX0_same_88 rfl rfl ?_
        refine k_getR (pc := 89) (q := 5) hX fl_0_18 dX0_same_89 rfl rfl ?_
        refine j_iload_n (pc := 92) hX dX0_same_92 rfl rfl ?_
        obtain ⟨r5, h1, h⟩ := ob_some h
        refine k_callVI (pc := 93) (st := []) hX ln_0_35 dX0_same_93 (t_xTerms_numberOf (d := 1) (Nat.le_refl _) h1) rfl rfl rfl (by omega) (Nat.le_of_ble_eq_true rfl) ?_
        refine j_aload_n (pc := 96) hX dX0_same_96 rfl rfl ?_
        refine k_getR (pc := 97) (q := 5) hX fl_0_18 dX0_same_97 rfl rfl ?_
        refine j_iload_n (pc := 100) hX dX0_same_100 rfl rfl ?_
        obtain ⟨r6, h1, h⟩ := ob_some h
        refine k_callVI (pc := 101) (st := [.int r5]) hX ln_0_35 dX0_same_101 (t_xTerms_numberOf (d := 1) (Nat.le_refl _) h1) rfl rfl rfl (by omega) (Nat.le_of_ble_eq_true rfl) ?_
        refine j_icmp_ne (pc := 104) (tgt := 111) hX dX0_same_104 (by decide) (fun z => ?_) (fun z => ?_)
        · replace h := ite_f z h
          refine j_iconst (pc := 111) (v := (0 : Int32)) hX dX0_same_111 (by decide) ?_
          obtain ⟨h, h0⟩ := Prod.mk.inj (Option.some.inj h)
          subst h h0
          exact j_iret (pc := 112) hX hE rfl rfl dX0_same_112 (Nat.le_refl 0) (Nat.le_refl 0) ⟨rfl, rfl, rfl⟩
        · replace h := ite_t z h
          refine j_iconst (pc := 107) (v := (1 : Int32)) hX dX0_same_107 (by decide) ?_
          refine j_goto (pc := 108) (tgt := 112) hX dX0_same_108 (by decide) ?_
          obtain ⟨h, h0⟩ := Prod.mk.inj (Option.some.inj h)
          subst h h0
          exact j_iret (pc := 112) hX hE rfl rfl dX0_same_112 (Nat.le_refl 0) (Nat.le_refl 0) ⟨rfl, rfl, rfl⟩
      replace h := ite_f z0 h
      by_cases z1 : r1 = 1
      · replace h := ite_t z1 h
        refine j_tabEq (pc := 46) (tgt := 113) 1 hX dX0_same_46 z1 (by decide) (by decide) rfl (by decide) ?_
        refine j_aload_n (pc := 113) hX dX0_same_113 rfl rfl ?_
        refine j_aload_n (pc := 114) hX dX0_same_114 rfl rfl ?_
        refine k_getR (pc := 115) (q := 5) hX fl_0_18 dX0_same_115 rfl rfl ?_
        refine j_iload_n (pc := 118) hX dX0_same_118 rfl rfl ?_
        obtain ⟨r7, h1, h⟩ := ob_some h
        refine k_callVI (pc := 119) (st := [.ref 20]) hX ln_0_38 dX0_same_119 (t_xTerms_letterOf (d := 1) (Nat.le_refl _) h1) rfl rfl rfl (by omega) (Nat.le_of_ble_eq_true rfl) ?_
        refine j_aload_n (pc := 122) hX dX0_same_122 rfl rfl ?_
        refine k_getR (pc := 123) (q := 5) hX fl_0_18 dX0_same_123 rfl rfl ?_
        refine j_iload_n (pc := 126) hX dX0_same_126 rfl rfl ?_
        obtain ⟨r8, h1, h⟩ := ob_some h
        refine k_callVI (pc := 127) (st := [.int r7, .ref 20]) hX ln_0_38 dX0_same_127 (t_xTerms_letterOf (d := 1) (Nat.le_refl _) h1) rfl rfl rfl (by omega) (Nat.le_of_ble_eq_true rfl) ?_
        obtain ⟨r9, h1, h⟩ := ob_some h
        refine k_callVI (pc := 130) (st := []) hX ln_0_41 dX0_same_130 (t_xComparer_sameName (d := 1) (Nat.le_refl _) h1) rfl rfl rfl (by omega) (Nat.le_of_ble_eq_true rfl) ?_
        obtain ⟨hb, h⟩ := gd_some h
        obtain ⟨h, h0⟩ := Prod.mk.inj (Option.some.inj h)
        subst h h0
        exact j_iret (pc := 133) hX hE rfl (bz_nar hb) dX0_same_133 (Nat.le_refl 0) (Nat.le_refl 0) ⟨rfl, rfl, rfl⟩
      replace h := ite_f z1 h
      by_cases z2 : r1 = 2
      · replace h := ite_t z2 h
        refine j_tabEq (pc := 46) (tgt := 134) 2 hX dX0_same_46 z2 (by decide) (by decide) rfl (by decide) ?_
        refine j_aload_n (pc := 134) hX dX0_same_134 rfl rfl ?_
        refine k_getR (pc := 135) (q := 5) hX fl_0_18 dX0_same_135 rfl rfl ?_
        refine j_iload_n (pc := 138) hX dX0_same_138 rfl rfl ?_
        obtain ⟨r10, h1, h⟩ := ob_some h
        refine k_callVI (pc := 139) (st := []) hX ln_0_45 dX0_same_139 (t_xTerms_typeOf (d := 1) (Nat.le_refl _) h1) rfl rfl rfl (by omega) (Nat.le_of_ble_eq_true rfl) ?_
        refine j_aload_n (pc := 142) hX dX0_same_142 rfl rfl ?_
        refine k_getR (pc := 143) (q := 5) hX fl_0_18 dX0_same_143 rfl rfl ?_
        refine j_iload_n (pc := 146) hX dX0_same_146 rfl rfl ?_
        obtain ⟨r11, h1, h⟩ := ob_some h
        refine k_callVI (pc := 147) (st := [.int r10]) hX ln_0_45 dX0_same_147 (t_xTerms_typeOf (d := 1) (Nat.le_refl _) h1) rfl rfl rfl (by omega) (Nat.le_of_ble_eq_true rfl) ?_
        refine j_icmp_ne (pc := 150) (tgt := 183) hX dX0_same_150 (by decide) (fun z => ?_) (fun z => ?_)
        · replace h := ite_f z h
          refine j_iconst (pc := 183) (v := (0 : Int32)) hX dX0_same_183 (by decide) ?_
          obtain ⟨h, h0⟩ := Prod.mk.inj (Option.some.inj h)
          subst h h0
          exact j_iret (pc := 184) hX hE rfl rfl dX0_same_184 (Nat.le_refl 0) (Nat.le_refl 0) ⟨rfl, rfl, rfl⟩
        · replace h := ite_t z h
          refine j_aload_n (pc := 153) hX dX0_same_153 rfl rfl ?_
          refine j_iload_n (pc := 154) hX dX0_same_154 rfl rfl ?_
          refine j_aload_n (pc := 155) hX dX0_same_155 rfl rfl ?_
          refine k_getR (pc := 156) (q := 5) hX fl_0_18 dX0_same_156 rfl rfl ?_
          refine j_iload_n (pc := 159) hX dX0_same_159 rfl rfl ?_
          obtain ⟨r12, h1, h⟩ := ob_some h
          refine k_callVI (pc := 160) (st := [.int a1, .ref 20]) hX ln_0_48 dX0_same_160 (t_xTerms_firstOf (d := 1) (Nat.le_refl _) h1) rfl rfl rfl (by omega) (Nat.le_of_ble_eq_true rfl) ?_
          refine j_iload_n (pc := 163) hX dX0_same_163 rfl rfl ?_
          refine j_aload_n (pc := 164) hX dX0_same_164 rfl rfl ?_
          refine k_getR (pc := 165) (q := 5) hX fl_0_18 dX0_same_165 rfl rfl ?_
          refine j_iload_n (pc := 168) hX dX0_same_168 rfl rfl ?_
          obtain ⟨r13, h1, h⟩ := ob_some h
          refine k_callVI (pc := 169) (st := [.int a2, .int r12, .int a1, .ref 20]) hX ln_0_48 dX0_same_169 (t_xTerms_firstOf (d := 1) (Nat.le_refl _) h1) rfl rfl rfl (by omega) (Nat.le_of_ble_eq_true rfl) ?_
          refine j_iload_n (pc := 172) hX dX0_same_172 rfl rfl ?_
          obtain ⟨r14, c15, h1, h⟩ := bd_some h
          refine k_callVI (pc := 173) (st := []) hX ln_0_51 dX0_same_173 (i1 _ _ _ _ _ _ _ _ _ h1) rfl rfl rfl hde (Nat.le_of_ble_eq_true rfl) ?_
          refine j_if_eq (pc := 176) (tgt := 183) hX dX0_same_176 (by decide) (fun z => ?_) (fun z => ?_)
          · replace h := ite_t z h
            refine j_iconst (pc := 183) (v := (0 : Int32)) hX dX0_same_183 (by decide) ?_
            obtain ⟨h, h0⟩ := Prod.mk.inj (Option.some.inj h)
            subst h h0
            exact j_iret (pc := 184) hX hE rfl rfl dX0_same_184 (Nat.le_refl 0) (Nat.le_refl 0) ⟨rfl, rfl, rfl⟩
          · replace h := ite_f z h
            refine j_iconst (pc := 179) (v := (1 : Int32)) hX dX0_same_179 (by decide) ?_
            refine j_goto (pc := 180) (tgt := 184) hX dX0_same_180 (by decide) ?_
            obtain ⟨h, h0⟩ := Prod.mk.inj (Option.some.inj h)
            subst h h0
            exact j_iret (pc := 184) hX hE rfl rfl dX0_same_184 (Nat.le_refl 0) (Nat.le_refl 0) ⟨rfl, rfl, rfl⟩
      replace h := ite_f z2 h
      by_cases z3 : r1 = 3
      · replace h := ite_t z3 h
        refine j_tabEq (pc := 46) (tgt := 241) 3 hX dX0_same_46 z3 (by decide) (by decide) rfl (by decide) ?_
        refine j_aload_n (pc := 241) hX dX0_same_241 rfl rfl ?_
        refine j_aload_n (pc := 242) hX dX0_same_242 rfl rfl ?_
        refine k_getR (pc := 243) (q := 5) hX fl_0_18 dX0_same_243 rfl rfl ?_
        refine j_iload_n (pc := 246) hX dX0_same_246 rfl rfl ?_
        obtain ⟨r16, h1, h⟩ := ob_some h
        refine k_callVI (pc := 247) (st := [.ref 20]) hX ln_0_48 dX0_same_247 (t_xTerms_firstOf (d := 1) (Nat.le_refl _) h1) rfl rfl rfl (by omega) (Nat.le_of_ble_eq_true rfl) ?_
        refine j_aload_n (pc := 250) hX dX0_same_250 rfl rfl ?_
        refine k_getR (pc := 251) (q := 5) hX fl_0_18 dX0_same_251 rfl rfl ?_
        refine j_iload_n (pc := 254) hX dX0_same_254 rfl rfl ?_
        obtain ⟨r17, h1, h⟩ := ob_some h
        refine k_callVI (pc := 255) (st := [.int r16, .ref 20]) hX ln_0_48 dX0_same_255 (t_xTerms_firstOf (d := 1) (Nat.le_refl _) h1) rfl rfl rfl (by omega) (Nat.le_of_ble_eq_true rfl) ?_
        refine j_iload_n (pc := 258) hX dX0_same_258 rfl rfl ?_
        obtain ⟨r18, c19, h1, h⟩ := bd_some h
        refine k_callVI (pc := 259) (st := []) hX ln_0_22 dX0_same_259 (i0 _ _ _ _ _ _ _ h1) rfl rfl rfl hde (Nat.le_of_ble_eq_true rfl) ?_
        refine j_if_eq (pc := 262) (tgt := 317) hX dX0_same_262 (by decide) (fun z => ?_) (fun z => ?_)
        · replace h := ite_t z h
          refine j_iconst (pc := 317) (v := (0 : Int32)) hX dX0_same_317 (by decide) ?_
          obtain ⟨h, h0⟩ := Prod.mk.inj (Option.some.inj h)
          subst h h0
          exact j_iret (pc := 318) hX hE rfl rfl dX0_same_318 (Nat.le_refl 0) (Nat.le_refl 0) ⟨rfl, rfl, rfl⟩
        · replace h := ite_f z h
          refine j_aload_n (pc := 265) hX dX0_same_265 rfl rfl ?_
          refine j_aload_n (pc := 266) hX dX0_same_266 rfl rfl ?_
          refine k_getR (pc := 267) (q := 5) hX fl_0_18 dX0_same_267 rfl rfl ?_
          refine j_iload_n (pc := 270) hX dX0_same_270 rfl rfl ?_
          obtain ⟨r20, h1, h⟩ := ob_some h
          refine k_callVI (pc := 271) (st := [.ref 20]) hX ln_0_55 dX0_same_271 (t_xTerms_secondOf (d := 1) (Nat.le_refl _) h1) rfl rfl rfl (by omega) (Nat.le_of_ble_eq_true rfl) ?_
          refine j_aload_n (pc := 274) hX dX0_same_274 rfl rfl ?_
          refine k_getR (pc := 275) (q := 5) hX fl_0_18 dX0_same_275 rfl rfl ?_
          refine j_iload_n (pc := 278) hX dX0_same_278 rfl rfl ?_
          obtain ⟨r21, h1, h⟩ := ob_some h
          refine k_callVI (pc := 279) (st := [.int r20, .ref 20]) hX ln_0_55 dX0_same_279 (t_xTerms_secondOf (d := 1) (Nat.le_refl _) h1) rfl rfl rfl (by omega) (Nat.le_of_ble_eq_true rfl) ?_
          refine j_iload_n (pc := 282) hX dX0_same_282 rfl rfl ?_
          obtain ⟨r22, c23, h1, h⟩ := bd_some h
          refine k_callVI (pc := 283) (st := []) hX ln_0_22 dX0_same_283 (i0 _ _ _ _ _ _ _ h1) rfl rfl rfl hde (Nat.le_of_ble_eq_true rfl) ?_
          refine j_if_eq (pc := 286) (tgt := 317) hX dX0_same_286 (by decide) (fun z => ?_) (fun z => ?_)
          · replace h := ite_t z h
            refine j_iconst (pc := 317) (v := (0 : Int32)) hX dX0_same_317 (by decide) ?_
            obtain ⟨h, h0⟩ := Prod.mk.inj (Option.some.inj h)
            subst h h0
            exact j_iret (pc := 318) hX hE rfl rfl dX0_same_318 (Nat.le_refl 0) (Nat.le_refl 0) ⟨rfl, rfl, rfl⟩
          · replace h := ite_f z h
            refine j_aload_n (pc := 289) hX dX0_same_289 rfl rfl ?_
            refine j_aload_n (pc := 290) hX dX0_same_290 rfl rfl ?_
            refine k_getR (pc := 291) (q := 5) hX fl_0_18 dX0_same_291 rfl rfl ?_
            refine j_iload_n (pc := 294) hX dX0_same_294 rfl rfl ?_
            obtain ⟨r24, h1, h⟩ := ob_some h
            refine k_callVI (pc := 295) (st := [.ref 20]) hX ln_0_58 dX0_same_295 (t_xTerms_thirdOf (d := 1) (Nat.le_refl _) h1) rfl rfl rfl (by omega) (Nat.le_of_ble_eq_true rfl) ?_
            refine j_aload_n (pc := 298) hX dX0_same_298 rfl rfl ?_
            refine k_getR (pc := 299) (q := 5) hX fl_0_18 dX0_same_299 rfl rfl ?_
            refine j_iload_n (pc := 302) hX dX0_same_302 rfl rfl ?_
            obtain ⟨r25, h1, h⟩ := ob_some h
            refine k_callVI (pc := 303) (st := [.int r24, .ref 20]) hX ln_0_58 dX0_same_303 (t_xTerms_thirdOf (d := 1) (Nat.le_refl _) h1) rfl rfl rfl (by omega) (Nat.le_of_ble_eq_true rfl) ?_
            refine j_iload_n (pc := 306) hX dX0_same_306 rfl rfl ?_
            obtain ⟨r26, c27, h1, h⟩ := bd_some h
            refine k_callVI (pc := 307) (st := []) hX ln_0_22 dX0_same_307 (i0 _ _ _ _ _ _ _ h1) rfl rfl rfl hde (Nat.le_of_ble_eq_true rfl) ?_
            refine j_if_eq (pc := 310) (tgt := 317) hX dX0_same_310 (by decide) (fun z => ?_) (fun z => ?_)
            · replace h := ite_t z h
              refine j_iconst (pc := 317) (v := (0 : Int32)) hX dX0_same_317 (by decide) ?_
              obtain ⟨h, h0⟩ := Prod.mk.inj (Option.some.inj h)
              subst h h0
              exact j_iret (pc := 318) hX hE rfl rfl dX0_same_318 (Nat.le_refl 0) (Nat.le_refl 0) ⟨rfl, rfl, rfl⟩
            · replace h := ite_f z h
              refine j_iconst (pc := 313) (v := (1 : Int32)) hX dX0_same_313 (by decide) ?_
              refine j_goto (pc := 314) (tgt := 318) hX dX0_same_314 (by decide) ?_
              obtain ⟨h, h0⟩ := Prod.mk.inj (Option.some.inj h)
              subst h h0
              exact j_iret (pc := 318) hX hE rfl rfl dX0_same_318 (Nat.le_refl 0) (Nat.le_refl 0) ⟨rfl, rfl, rfl⟩
      replace h := ite_f z3 h
      by_cases z4 : r1 = 4
      · replace h := ite_t z4 h
        refine j_tabEq (pc := 46) (tgt := 185) 4 hX dX0_same_46 z4 (by decide) (by decide) rfl (by decide) ?_
        refine j_aload_n (pc := 185) hX dX0_same_185 rfl rfl ?_
        refine j_aload_n (pc := 186) hX dX0_same_186 rfl rfl ?_
        refine k_getR (pc := 187) (q := 5) hX fl_0_18 dX0_same_187 rfl rfl ?_
        refine j_iload_n (pc := 190) hX dX0_same_190 rfl rfl ?_
        obtain ⟨r28, h1, h⟩ := ob_some h
        refine k_callVI (pc := 191) (st := [.ref 20]) hX ln_0_48 dX0_same_191 (t_xTerms_firstOf (d := 1) (Nat.le_refl _) h1) rfl rfl rfl (by omega) (Nat.le_of_ble_eq_true rfl) ?_
        refine j_aload_n (pc := 194) hX dX0_same_194 rfl rfl ?_
        refine k_getR (pc := 195) (q := 5) hX fl_0_18 dX0_same_195 rfl rfl ?_
        refine j_iload_n (pc := 198) hX dX0_same_198 rfl rfl ?_
        obtain ⟨r29, h1, h⟩ := ob_some h
        refine k_callVI (pc := 199) (st := [.int r28, .ref 20]) hX ln_0_48 dX0_same_199 (t_xTerms_firstOf (d := 1) (Nat.le_refl _) h1) rfl rfl rfl (by omega) (Nat.le_of_ble_eq_true rfl) ?_
        refine j_iload_n (pc := 202) hX dX0_same_202 rfl rfl ?_
        obtain ⟨r30, c31, h1, h⟩ := bd_some h
        refine k_callVI (pc := 203) (st := []) hX ln_0_22 dX0_same_203 (i0 _ _ _ _ _ _ _ h1) rfl rfl rfl hde (Nat.le_of_ble_eq_true rfl) ?_
        refine j_if_eq (pc := 206) (tgt := 239) hX dX0_same_206 (by decide) (fun z => ?_) (fun z => ?_)
        · replace h := ite_t z h
          refine j_iconst (pc := 239) (v := (0 : Int32)) hX dX0_same_239 (by decide) ?_
          obtain ⟨h, h0⟩ := Prod.mk.inj (Option.some.inj h)
          subst h h0
          exact j_iret (pc := 240) hX hE rfl rfl dX0_same_240 (Nat.le_refl 0) (Nat.le_refl 0) ⟨rfl, rfl, rfl⟩
        · replace h := ite_f z h
          refine j_aload_n (pc := 209) hX dX0_same_209 rfl rfl ?_
          refine j_iload_n (pc := 210) hX dX0_same_210 rfl rfl ?_
          refine j_aload_n (pc := 211) hX dX0_same_211 rfl rfl ?_
          refine k_getR (pc := 212) (q := 5) hX fl_0_18 dX0_same_212 rfl rfl ?_
          refine j_iload_n (pc := 215) hX dX0_same_215 rfl rfl ?_
          obtain ⟨r32, h1, h⟩ := ob_some h
          refine k_callVI (pc := 216) (st := [.int a1, .ref 20]) hX ln_0_55 dX0_same_216 (t_xTerms_secondOf (d := 1) (Nat.le_refl _) h1) rfl rfl rfl (by omega) (Nat.le_of_ble_eq_true rfl) ?_
          refine j_iload_n (pc := 219) hX dX0_same_219 rfl rfl ?_
          refine j_aload_n (pc := 220) hX dX0_same_220 rfl rfl ?_
          refine k_getR (pc := 221) (q := 5) hX fl_0_18 dX0_same_221 rfl rfl ?_
          refine j_iload_n (pc := 224) hX dX0_same_224 rfl rfl ?_
          obtain ⟨r33, h1, h⟩ := ob_some h
          refine k_callVI (pc := 225) (st := [.int a2, .int r32, .int a1, .ref 20]) hX ln_0_55 dX0_same_225 (t_xTerms_secondOf (d := 1) (Nat.le_refl _) h1) rfl rfl rfl (by omega) (Nat.le_of_ble_eq_true rfl) ?_
          refine j_iload_n (pc := 228) hX dX0_same_228 rfl rfl ?_
          obtain ⟨r34, c35, h1, h⟩ := bd_some h
          refine k_callVI (pc := 229) (st := []) hX ln_0_51 dX0_same_229 (i1 _ _ _ _ _ _ _ _ _ h1) rfl rfl rfl hde (Nat.le_of_ble_eq_true rfl) ?_
          refine j_if_eq (pc := 232) (tgt := 239) hX dX0_same_232 (by decide) (fun z => ?_) (fun z => ?_)
          · replace h := ite_t z h
            refine j_iconst (pc := 239) (v := (0 : Int32)) hX dX0_same_239 (by decide) ?_
            obtain ⟨h, h0⟩ := Prod.mk.inj (Option.some.inj h)
            subst h h0
            exact j_iret (pc := 240) hX hE rfl rfl dX0_same_240 (Nat.le_refl 0) (Nat.le_refl 0) ⟨rfl, rfl, rfl⟩
          · replace h := ite_f z h
            refine j_iconst (pc := 235) (v := (1 : Int32)) hX dX0_same_235 (by decide) ?_
            refine j_goto (pc := 236) (tgt := 240) hX dX0_same_236 (by decide) ?_
            obtain ⟨h, h0⟩ := Prod.mk.inj (Option.some.inj h)
            subst h h0
            exact j_iret (pc := 240) hX hE rfl rfl dX0_same_240 (Nat.le_refl 0) (Nat.le_refl 0) ⟨rfl, rfl, rfl⟩
      replace h := ite_f z4 h
      by_cases z5 : r1 = 5
      · replace h := ite_t z5 h
        refine j_tabEq (pc := 46) (tgt := 241) 5 hX dX0_same_46 z5 (by decide) (by decide) rfl (by decide) ?_
        refine j_aload_n (pc := 241) hX dX0_same_241 rfl rfl ?_
        refine j_aload_n (pc := 242) hX dX0_same_242 rfl rfl ?_
        refine k_getR (pc := 243) (q := 5) hX fl_0_18 dX0_same_243 rfl rfl ?_
        refine j_iload_n (pc := 246) hX dX0_same_246 rfl rfl ?_
        obtain ⟨r36, h1, h⟩ := ob_some h
        refine k_callVI (pc := 247) (st := [.ref 20]) hX ln_0_48 dX0_same_247 (t_xTerms_firstOf (d := 1) (Nat.le_refl _) h1) rfl rfl rfl (by omega) (Nat.le_of_ble_eq_true rfl) ?_
        refine j_aload_n (pc := 250) hX dX0_same_250 rfl rfl ?_
        refine k_getR (pc := 251) (q := 5) hX fl_0_18 dX0_same_251 rfl rfl ?_
        refine j_iload_n (pc := 254) hX dX0_same_254 rfl rfl ?_
        obtain ⟨r37, h1, h⟩ := ob_some h
        refine k_callVI (pc := 255) (st := [.int r36, .ref 20]) hX ln_0_48 dX0_same_255 (t_xTerms_firstOf (d := 1) (Nat.le_refl _) h1) rfl rfl rfl (by omega) (Nat.le_of_ble_eq_true rfl) ?_
        refine j_iload_n (pc := 258) hX dX0_same_258 rfl rfl ?_
        obtain ⟨r38, c39, h1, h⟩ := bd_some h
        refine k_callVI (pc := 259) (st := []) hX ln_0_22 dX0_same_259 (i0 _ _ _ _ _ _ _ h1) rfl rfl rfl hde (Nat.le_of_ble_eq_true rfl) ?_
        refine j_if_eq (pc := 262) (tgt := 317) hX dX0_same_262 (by decide) (fun z => ?_) (fun z => ?_)
        · replace h := ite_t z h
          refine j_iconst (pc := 317) (v := (0 : Int32)) hX dX0_same_317 (by decide) ?_
          obtain ⟨h, h0⟩ := Prod.mk.inj (Option.some.inj h)
          subst h h0
          exact j_iret (pc := 318) hX hE rfl rfl dX0_same_318 (Nat.le_refl 0) (Nat.le_refl 0) ⟨rfl, rfl, rfl⟩
        · replace h := ite_f z h
          refine j_aload_n (pc := 265) hX dX0_same_265 rfl rfl ?_
          refine j_aload_n (pc := 266) hX dX0_same_266 rfl rfl ?_
          refine k_getR (pc := 267) (q := 5) hX fl_0_18 dX0_same_267 rfl rfl ?_
          refine j_iload_n (pc := 270) hX dX0_same_270 rfl rfl ?_
          obtain ⟨r40, h1, h⟩ := ob_some h
          refine k_callVI (pc := 271) (st := [.ref 20]) hX ln_0_55 dX0_same_271 (t_xTerms_secondOf (d := 1) (Nat.le_refl _) h1) rfl rfl rfl (by omega) (Nat.le_of_ble_eq_true rfl) ?_
          refine j_aload_n (pc := 274) hX dX0_same_274 rfl rfl ?_
          refine k_getR (pc := 275) (q := 5) hX fl_0_18 dX0_same_275 rfl rfl ?_
          refine j_iload_n (pc := 278) hX dX0_same_278 rfl rfl ?_
          obtain ⟨r41, h1, h⟩ := ob_some h
          refine k_callVI (pc := 279) (st := [.int r40, .ref 20]) hX ln_0_55 dX0_same_279 (t_xTerms_secondOf (d := 1) (Nat.le_refl _) h1) rfl rfl rfl (by omega) (Nat.le_of_ble_eq_true rfl) ?_
          refine j_iload_n (pc := 282) hX dX0_same_282 rfl rfl ?_
          obtain ⟨r42, c43, h1, h⟩ := bd_some h
          refine k_callVI (pc := 283) (st := []) hX ln_0_22 dX0_same_283 (i0 _ _ _ _ _ _ _ h1) rfl rfl rfl hde (Nat.le_of_ble_eq_true rfl) ?_
          refine j_if_eq (pc := 286) (tgt := 317) hX dX0_same_286 (by decide) (fun z => ?_) (fun z => ?_)
          · replace h := ite_t z h
            refine j_iconst (pc := 317) (v := (0 : Int32)) hX dX0_same_317 (by decide) ?_
            obtain ⟨h, h0⟩ := Prod.mk.inj (Option.some.inj h)
            subst h h0
            exact j_iret (pc := 318) hX hE rfl rfl dX0_same_318 (Nat.le_refl 0) (Nat.le_refl 0) ⟨rfl, rfl, rfl⟩
          · replace h := ite_f z h
            refine j_aload_n (pc := 289) hX dX0_same_289 rfl rfl ?_
            refine j_aload_n (pc := 290) hX dX0_same_290 rfl rfl ?_
            refine k_getR (pc := 291) (q := 5) hX fl_0_18 dX0_same_291 rfl rfl ?_
            refine j_iload_n (pc := 294) hX dX0_same_294 rfl rfl ?_
            obtain ⟨r44, h1, h⟩ := ob_some h
            refine k_callVI (pc := 295) (st := [.ref 20]) hX ln_0_58 dX0_same_295 (t_xTerms_thirdOf (d := 1) (Nat.le_refl _) h1) rfl rfl rfl (by omega) (Nat.le_of_ble_eq_true rfl) ?_
            refine j_aload_n (pc := 298) hX dX0_same_298 rfl rfl ?_
            refine k_getR (pc := 299) (q := 5) hX fl_0_18 dX0_same_299 rfl rfl ?_
            refine j_iload_n (pc := 302) hX dX0_same_302 rfl rfl ?_
            obtain ⟨r45, h1, h⟩ := ob_some h
            refine k_callVI (pc := 303) (st := [.int r44, .ref 20]) hX ln_0_58 dX0_same_303 (t_xTerms_thirdOf (d := 1) (Nat.le_refl _) h1) rfl rfl rfl (by omega) (Nat.le_of_ble_eq_true rfl) ?_
            refine j_iload_n (pc := 306) hX dX0_same_306 rfl rfl ?_
            obtain ⟨r46, c47, h1, h⟩ := bd_some h
            refine k_callVI (pc := 307) (st := []) hX ln_0_22 dX0_same_307 (i0 _ _ _ _ _ _ _ h1) rfl rfl rfl hde (Nat.le_of_ble_eq_true rfl) ?_
            refine j_if_eq (pc := 310) (tgt := 317) hX dX0_same_310 (by decide) (fun z => ?_) (fun z => ?_)
            · replace h := ite_t z h
              refine j_iconst (pc := 317) (v := (0 : Int32)) hX dX0_same_317 (by decide) ?_
              obtain ⟨h, h0⟩ := Prod.mk.inj (Option.some.inj h)
              subst h h0
              exact j_iret (pc := 318) hX hE rfl rfl dX0_same_318 (Nat.le_refl 0) (Nat.le_refl 0) ⟨rfl, rfl, rfl⟩
            · replace h := ite_f z h
              refine j_iconst (pc := 313) (v := (1 : Int32)) hX dX0_same_313 (by decide) ?_
              refine j_goto (pc := 314) (tgt := 318) hX dX0_same_314 (by decide) ?_
              obtain ⟨h, h0⟩ := Prod.mk.inj (Option.some.inj h)
              subst h h0
              exact j_iret (pc := 318) hX hE rfl rfl dX0_same_318 (Nat.le_refl 0) (Nat.le_refl 0) ⟨rfl, rfl, rfl⟩
      replace h := ite_f z5 h
      by_cases z6 : r1 = 6
      · replace h := ite_t z6 h
        refine j_tabEq (pc := 46) (tgt := 241) 6 hX dX0_same_46 z6 (by decide) (by decide) rfl (by decide) ?_
        refine j_aload_n (pc := 241) hX dX0_same_241 rfl rfl ?_
        refine j_aload_n (pc := 242) hX dX0_same_242 rfl rfl ?_
        refine k_getR (pc := 243) (q := 5) hX fl_0_18 dX0_same_243 rfl rfl ?_
        refine j_iload_n (pc := 246) hX dX0_same_246 rfl rfl ?_
        obtain ⟨r48, h1, h⟩ := ob_some h
        refine k_callVI (pc := 247) (st := [.ref 20]) hX ln_0_48 dX0_same_247 (t_xTerms_firstOf (d := 1) (Nat.le_refl _) h1) rfl rfl rfl (by omega) (Nat.le_of_ble_eq_true rfl) ?_
        refine j_aload_n (pc := 250) hX dX0_same_250 rfl rfl ?_
        refine k_getR (pc := 251) (q := 5) hX fl_0_18 dX0_same_251 rfl rfl ?_
        refine j_iload_n (pc := 254) hX dX0_same_254 rfl rfl ?_
        obtain ⟨r49, h1, h⟩ := ob_some h
        refine k_callVI (pc := 255) (st := [.int r48, .ref 20]) hX ln_0_48 dX0_same_255 (t_xTerms_firstOf (d := 1) (Nat.le_refl _) h1) rfl rfl rfl (by omega) (Nat.le_of_ble_eq_true rfl) ?_
        refine j_iload_n (pc := 258) hX dX0_same_258 rfl rfl ?_
        obtain ⟨r50, c51, h1, h⟩ := bd_some h
        refine k_callVI (pc := 259) (st := []) hX ln_0_22 dX0_same_259 (i0 _ _ _ _ _ _ _ h1) rfl rfl rfl hde (Nat.le_of_ble_eq_true rfl) ?_
        refine j_if_eq (pc := 262) (tgt := 317) hX dX0_same_262 (by decide) (fun z => ?_) (fun z => ?_)
        · replace h := ite_t z h
          refine j_iconst (pc := 317) (v := (0 : Int32)) hX dX0_same_317 (by decide) ?_
          obtain ⟨h, h0⟩ := Prod.mk.inj (Option.some.inj h)
          subst h h0
          exact j_iret (pc := 318) hX hE rfl rfl dX0_same_318 (Nat.le_refl 0) (Nat.le_refl 0) ⟨rfl, rfl, rfl⟩
        · replace h := ite_f z h
          refine j_aload_n (pc := 265) hX dX0_same_265 rfl rfl ?_
          refine j_aload_n (pc := 266) hX dX0_same_266 rfl rfl ?_
          refine k_getR (pc := 267) (q := 5) hX fl_0_18 dX0_same_267 rfl rfl ?_
          refine j_iload_n (pc := 270) hX dX0_same_270 rfl rfl ?_
          obtain ⟨r52, h1, h⟩ := ob_some h
          refine k_callVI (pc := 271) (st := [.ref 20]) hX ln_0_55 dX0_same_271 (t_xTerms_secondOf (d := 1) (Nat.le_refl _) h1) rfl rfl rfl (by omega) (Nat.le_of_ble_eq_true rfl) ?_
          refine j_aload_n (pc := 274) hX dX0_same_274 rfl rfl ?_
          refine k_getR (pc := 275) (q := 5) hX fl_0_18 dX0_same_275 rfl rfl ?_
          refine j_iload_n (pc := 278) hX dX0_same_278 rfl rfl ?_
          obtain ⟨r53, h1, h⟩ := ob_some h
          refine k_callVI (pc := 279) (st := [.int r52, .ref 20]) hX ln_0_55 dX0_same_279 (t_xTerms_secondOf (d := 1) (Nat.le_refl _) h1) rfl rfl rfl (by omega) (Nat.le_of_ble_eq_true rfl) ?_
          refine j_iload_n (pc := 282) hX dX0_same_282 rfl rfl ?_
          obtain ⟨r54, c55, h1, h⟩ := bd_some h
          refine k_callVI (pc := 283) (st := []) hX ln_0_22 dX0_same_283 (i0 _ _ _ _ _ _ _ h1) rfl rfl rfl hde (Nat.le_of_ble_eq_true rfl) ?_
          refine j_if_eq (pc := 286) (tgt := 317) hX dX0_same_286 (by decide) (fun z => ?_) (fun z => ?_)
          · replace h := ite_t z h
            refine j_iconst (pc := 317) (v := (0 : Int32)) hX dX0_same_317 (by decide) ?_
            obtain ⟨h, h0⟩ := Prod.mk.inj (Option.some.inj h)
            subst h h0
            exact j_iret (pc := 318) hX hE rfl rfl dX0_same_318 (Nat.le_refl 0) (Nat.le_refl 0) ⟨rfl, rfl, rfl⟩
          · replace h := ite_f z h
            refine j_aload_n (pc := 289) hX dX0_same_289 rfl rfl ?_
            refine j_aload_n (pc := 290) hX dX0_same_290 rfl rfl ?_
            refine k_getR (pc := 291) (q := 5) hX fl_0_18 dX0_same_291 rfl rfl ?_
            refine j_iload_n (pc := 294) hX dX0_same_294 rfl rfl ?_
            obtain ⟨r56, h1, h⟩ := ob_some h
            refine k_callVI (pc := 295) (st := [.ref 20]) hX ln_0_58 dX0_same_295 (t_xTerms_thirdOf (d := 1) (Nat.le_refl _) h1) rfl rfl rfl (by omega) (Nat.le_of_ble_eq_true rfl) ?_
            refine j_aload_n (pc := 298) hX dX0_same_298 rfl rfl ?_
            refine k_getR (pc := 299) (q := 5) hX fl_0_18 dX0_same_299 rfl rfl ?_
            refine j_iload_n (pc := 302) hX dX0_same_302 rfl rfl ?_
            obtain ⟨r57, h1, h⟩ := ob_some h
            refine k_callVI (pc := 303) (st := [.int r56, .ref 20]) hX ln_0_58 dX0_same_303 (t_xTerms_thirdOf (d := 1) (Nat.le_refl _) h1) rfl rfl rfl (by omega) (Nat.le_of_ble_eq_true rfl) ?_
            refine j_iload_n (pc := 306) hX dX0_same_306 rfl rfl ?_
            obtain ⟨r58, c59, h1, h⟩ := bd_some h
            refine k_callVI (pc := 307) (st := []) hX ln_0_22 dX0_same_307 (i0 _ _ _ _ _ _ _ h1) rfl rfl rfl hde (Nat.le_of_ble_eq_true rfl) ?_
            refine j_if_eq (pc := 310) (tgt := 317) hX dX0_same_310 (by decide) (fun z => ?_) (fun z => ?_)
            · replace h := ite_t z h
              refine j_iconst (pc := 317) (v := (0 : Int32)) hX dX0_same_317 (by decide) ?_
              obtain ⟨h, h0⟩ := Prod.mk.inj (Option.some.inj h)
              subst h h0
              exact j_iret (pc := 318) hX hE rfl rfl dX0_same_318 (Nat.le_refl 0) (Nat.le_refl 0) ⟨rfl, rfl, rfl⟩
            · replace h := ite_f z h
              refine j_iconst (pc := 313) (v := (1 : Int32)) hX dX0_same_313 (by decide) ?_
              refine j_goto (pc := 314) (tgt := 318) hX dX0_same_314 (by decide) ?_
              obtain ⟨h, h0⟩ := Prod.mk.inj (Option.some.inj h)
              subst h h0
              exact j_iret (pc := 318) hX hE rfl rfl dX0_same_318 (Nat.le_refl 0) (Nat.le_refl 0) ⟨rfl, rfl, rfl⟩
      replace h := ite_f z6 h
      refine j_tabOut (pc := 46) (tgt := 319) hX dX0_same_46 (by have yz0 := lv_neT (a := 0) z0 (by decide); have yz1 := lv_neT (a := 1) z1 (by decide); have yz2 := lv_neT (a := 2) z2 (by decide); have yz3 := lv_neT (a := 3) z3 (by decide); have yz4 := lv_neT (a := 4) z4 (by decide); have yz5 := lv_neT (a := 5) z5 (by decide); have yz6 := lv_neT (a := 6) z6 (by decide); omega) (by decide) ?_
      refine j_iconst (pc := 319) (v := (1 : Int32)) hX dX0_same_319 (by decide) ?_
      obtain ⟨h, h0⟩ := Prod.mk.inj (Option.some.inj h)
      subst h h0
      exact j_iret (pc := 320) hX hE rfl rfl dX0_same_320 (Nat.le_refl 0) (Nat.le_refl 0) ⟨rfl, rfl, rfl⟩
    · replace h := ite_f z h
      refine j_iconst (pc := 42) (v := (0 : Int32)) hX dX0_same_42 (by decide) ?_
      obtain ⟨h, h0⟩ := Prod.mk.inj (Option.some.inj h)
      subst h h0
      exact j_iret (pc := 43) hX hE rfl rfl dX0_same_43 (Nat.le_refl 0) (Nat.le_refl 0) ⟨rfl, rfl, rfl⟩

set_option maxHeartbeats 4000000 in
set_option maxRecDepth 100000 in
theorem tb_xComparer_sameUnder {l : Launch} {D : va_G} {G : Nat → ClassId} {d : Nat} {e : Nat} {F_same : jS → Int32 → Int32 → Int32 → Option (Int32 × jS)} {F_sameUnder : jS → Int32 → Int32 → Int32 → Int32 → Int32 → Option (Int32 × jS)} (i0 : ∀ (c r : jS) (a1 : Int32) (a2 : Int32) (a3 : Int32) (vE : Int32) (cE : jS), F_same c a1 a2 a3 = some (vE, cE) → jC l D G e M_xComparer_same [.ref 20, .int a1, .int a2, .int a3] (jmix c r) (some (.int vE)) (jmix cE r)) (i1 : ∀ (c r : jS) (a1 : Int32) (a2 : Int32) (a3 : Int32) (a4 : Int32) (a5 : Int32) (vE : Int32) (cE : jS), F_sameUnder c a1 a2 a3 a4 a5 = some (vE, cE) → jC l D G e M_xComparer_sameUnder [.ref 20, .int a1, .int a2, .int a3, .int a4, .int a5] (jmix c r) (some (.int vE)) (jmix cE r)) (hdp : 2 ≤ d) (hde : e + 1 ≤ d) {c r : jS} {a1 : Int32} {a2 : Int32} {a3 : Int32} {a4 : Int32} {a5 : Int32} {vE : Int32} {cE : jS} (h : b_xComparer_sameUnder F_same F_sameUnder c a1 a2 a3 a4 a5 = some (vE, cE)) : jC l D G d M_xComparer_sameUnder [.ref 20, .int a1, .int a2, .int a3, .int a4, .int a5] (jmix c r) (some (.int vE)) (jmix cE r) := by
  refine jM_of rfl (Nat.le_of_ble_eq_true rfl) ?_
  intro X hl hD hG _ _ hX hE _
  subst hl hD hG
  unfold b_xComparer_sameUnder at h
  show J X 0 0 jN (jE (jmix c r)) [(0, .ref 20), (1, .int a1), (2, .int a2), (3, .int a3), (4, .int a4), (5, .int a5)] [] 0
  refine j_aload_n (pc := 0) hX dX0_sameUnder_0 rfl rfl ?_
  refine k_getR (pc := 1) (q := 5) hX fl_0_18 dX0_sameUnder_1 rfl rfl ?_
  refine j_iload_n (pc := 4) hX dX0_sameUnder_4 rfl rfl ?_
  obtain ⟨r1, h1, h⟩ := ob_some h
  refine k_callVI (pc := 5) (st := []) hX ln_0_38 dX0_sameUnder_5 (t_xTerms_letterOf (d := 1) (Nat.le_refl _) h1) rfl rfl rfl (by omega) (Nat.le_of_ble_eq_true rfl) ?_
  refine j_istore (pc := 8) hX dX0_sameUnder_8 (by decide) (by decide) ?_
  refine j_aload_n (pc := 10) hX dX0_sameUnder_10 rfl rfl ?_
  refine k_getR (pc := 11) (q := 5) hX fl_0_18 dX0_sameUnder_11 rfl rfl ?_
  refine j_iload_n (pc := 14) hX dX0_sameUnder_14 rfl rfl ?_
  obtain ⟨r2, h1, h⟩ := ob_some h
  refine k_callVI (pc := 15) (st := []) hX ln_0_38 dX0_sameUnder_15 (t_xTerms_letterOf (d := 1) (Nat.le_refl _) h1) rfl rfl rfl (by omega) (Nat.le_of_ble_eq_true rfl) ?_
  refine j_istore (pc := 18) hX dX0_sameUnder_18 (by decide) (by decide) ?_
  refine j_iload (pc := 20) hX dX0_sameUnder_20 rfl ?_
  obtain ⟨r3, h1, h⟩ := ob_some h
  refine k_callNI (pc := 22) (st := []) hX ln_0_61 dX0_sameUnder_22 (t_xc_isLetter (d := 0) (Nat.le_refl _) h1) rfl rfl (by omega) (Nat.le_of_ble_eq_true rfl) ?_
  refine j_if_eq (pc := 25) (tgt := 36) hX dX0_sameUnder_25 (by decide) (fun z => ?_) (fun z => ?_)
  · replace h := ite_t z h
    refine j_iconst (pc := 36) (v := (0 : Int32)) hX dX0_sameUnder_36 (by decide) ?_
    obtain ⟨h, h0⟩ := Prod.mk.inj (Option.some.inj h)
    subst h h0
    exact j_iret (pc := 37) hX hE rfl rfl dX0_sameUnder_37 (Nat.le_refl 0) (Nat.le_refl 0) ⟨rfl, rfl, rfl⟩
  · replace h := ite_f z h
    refine j_iload (pc := 28) hX dX0_sameUnder_28 rfl ?_
    obtain ⟨r4, h1, h⟩ := ob_some h
    refine k_callNI (pc := 30) (st := []) hX ln_0_61 dX0_sameUnder_30 (t_xc_isLetter (d := 0) (Nat.le_refl _) h1) rfl rfl (by omega) (Nat.le_of_ble_eq_true rfl) ?_
    refine j_if_ne (pc := 33) (tgt := 38) hX dX0_sameUnder_33 (by decide) (fun z => ?_) (fun z => ?_)
    · replace h := ite_f z h
      refine j_aload_n (pc := 38) hX dX0_sameUnder_38 rfl rfl ?_
      refine k_getR (pc := 39) (q := 21) hX fl_0_9 dX0_sameUnder_39 rfl rfl ?_
      refine j_iload (pc := 42) hX dX0_sameUnder_42 rfl ?_
      obtain ⟨hg, h⟩ := gd_some h
      refine k_iald (pc := 44) (x := (c 21 (r1).toNatClampNeg)) hX dX0_sameUnder_44 rfl hg rfl ?_
      refine j_istore (pc := 45) hX dX0_sameUnder_45 (by decide) (by decide) ?_
      refine j_aload_n (pc := 47) hX dX0_sameUnder_47 rfl rfl ?_
      refine k_getR (pc := 48) (q := 22) hX fl_0_15 dX0_sameUnder_48 rfl rfl ?_
      refine j_iload (pc := 51) hX dX0_sameUnder_51 rfl ?_
      obtain ⟨hg, h⟩ := gd_some h
      refine k_iald (pc := 53) (x := (c 22 (r2).toNatClampNeg)) hX dX0_sameUnder_53 rfl hg rfl ?_
      refine j_istore (pc := 54) hX dX0_sameUnder_54 (by decide) (by decide) ?_
      refine j_aload_n (pc := 56) hX dX0_sameUnder_56 rfl rfl ?_
      refine k_getR (pc := 57) (q := 21) hX fl_0_9 dX0_sameUnder_57 rfl rfl ?_
      refine j_iload (pc := 60) hX dX0_sameUnder_60 rfl ?_
      refine j_iload (pc := 62) hX dX0_sameUnder_62 rfl ?_
      obtain ⟨hg, h⟩ := gd_some h
      obtain ⟨c5, hc, h⟩ := lt_some h
      refine k_iast (pc := 64) (c' := jmix c5 r) hX dX0_sameUnder_64 rfl hg (jmix_xe rfl hc) ?_
      refine j_aload_n (pc := 65) hX dX0_sameUnder_65 rfl rfl ?_
      refine k_getR (pc := 66) (q := 22) hX fl_0_15 dX0_sameUnder_66 rfl rfl ?_
      refine j_iload (pc := 69) hX dX0_sameUnder_69 rfl ?_
      refine j_iload (pc := 71) hX dX0_sameUnder_71 rfl ?_
      obtain ⟨hg, h⟩ := gd_some h
      obtain ⟨c6, hc, h⟩ := lt_some h
      refine k_iast (pc := 73) (c' := jmix c6 r) hX dX0_sameUnder_73 rfl hg (jmix_xe rfl hc) ?_
      refine j_aload_n (pc := 74) hX dX0_sameUnder_74 rfl rfl ?_
      refine j_iload_n (pc := 75) hX dX0_sameUnder_75 rfl rfl ?_
      refine j_iload (pc := 76) hX dX0_sameUnder_76 rfl ?_
      refine j_iload (pc := 78) hX dX0_sameUnder_78 rfl ?_
      refine j_iconst (pc := 80) (v := (1 : Int32)) hX dX0_sameUnder_80 (by decide) ?_
      refine j_iadd (pc := 81) hX dX0_sameUnder_81 ?_
      obtain ⟨r7, c8, h1, h⟩ := bd_some h
      refine k_callVI (pc := 82) (st := []) hX ln_0_22 dX0_sameUnder_82 (i0 _ _ _ _ _ _ _ h1) rfl rfl rfl hde (Nat.le_of_ble_eq_true rfl) ?_
      refine j_istore (pc := 85) hX dX0_sameUnder_85 (by decide) (by decide) ?_
      refine j_aload_n (pc := 87) hX dX0_sameUnder_87 rfl rfl ?_
      refine k_getR (pc := 88) (q := 21) hX fl_0_9 dX0_sameUnder_88 rfl rfl ?_
      refine j_iload (pc := 91) hX dX0_sameUnder_91 rfl ?_
      refine j_iload (pc := 93) hX dX0_sameUnder_93 rfl ?_
      obtain ⟨hg, h⟩ := gd_some h
      obtain ⟨c9, hc, h⟩ := lt_some h
      refine k_iast (pc := 95) (c' := jmix c9 r) hX dX0_sameUnder_95 rfl hg (jmix_xe rfl hc) ?_
      refine j_aload_n (pc := 96) hX dX0_sameUnder_96 rfl rfl ?_
      refine k_getR (pc := 97) (q := 22) hX fl_0_15 dX0_sameUnder_97 rfl rfl ?_
      refine j_iload (pc := 100) hX dX0_sameUnder_100 rfl ?_
      refine j_iload (pc := 102) hX dX0_sameUnder_102 rfl ?_
      obtain ⟨hg, h⟩ := gd_some h
      obtain ⟨c10, hc, h⟩ := lt_some h
      refine k_iast (pc := 104) (c' := jmix c10 r) hX dX0_sameUnder_104 rfl hg (jmix_xe rfl hc) ?_
      refine j_iload (pc := 105) hX dX0_sameUnder_105 rfl ?_
      obtain ⟨hb, h⟩ := gd_some h
      obtain ⟨h, h0⟩ := Prod.mk.inj (Option.some.inj h)
      subst h h0
      exact j_iret (pc := 107) hX hE rfl (bz_nar hb) dX0_sameUnder_107 (Nat.le_refl 0) (Nat.le_refl 0) ⟨rfl, rfl, rfl⟩
    · replace h := ite_t z h
      refine j_iconst (pc := 36) (v := (0 : Int32)) hX dX0_sameUnder_36 (by decide) ?_
      obtain ⟨h, h0⟩ := Prod.mk.inj (Option.some.inj h)
      subst h h0
      exact j_iret (pc := 37) hX hE rfl rfl dX0_sameUnder_37 (Nat.le_refl 0) (Nat.le_refl 0) ⟨rfl, rfl, rfl⟩

set_option maxHeartbeats 4000000 in
set_option maxRecDepth 100000 in
theorem tg_xComparer_same {l : Launch} {D : va_G} {G : Nat → ClassId} : ∀ f : Nat, (∀ (c r : jS) (a1 : Int32) (a2 : Int32) (a3 : Int32) (vE : Int32) (cE : jS), xComparer_same f c a1 a2 a3 = some (vE, cE) → jC l D G (f + 2) M_xComparer_same [.ref 20, .int a1, .int a2, .int a3] (jmix c r) (some (.int vE)) (jmix cE r)) ∧
    (∀ (c r : jS) (a1 : Int32) (a2 : Int32) (a3 : Int32) (a4 : Int32) (a5 : Int32) (vE : Int32) (cE : jS), xComparer_sameUnder f c a1 a2 a3 a4 a5 = some (vE, cE) → jC l D G (f + 2) M_xComparer_sameUnder [.ref 20, .int a1, .int a2, .int a3, .int a4, .int a5] (jmix c r) (some (.int vE)) (jmix cE r)) := by
  intro f
  induction f with
  | zero =>
    exact ⟨fun _ _ _ _ _ _ _ h => (by cases h), fun _ _ _ _ _ _ _ _ _ h => (by cases h)⟩
  | succ f ih =>
    obtain ⟨i0, i1⟩ := ih
    exact ⟨fun _ _ _ _ _ _ _ h => tb_xComparer_same (e := f + 2) i0 i1 (by omega) (by omega) h,
      fun _ _ _ _ _ _ _ _ _ h => tb_xComparer_sameUnder (e := f + 2) i0 i1 (by omega) (by omega) h⟩

theorem t_xComparer_same {l : Launch} {D : va_G} {G : Nat → ClassId} {c r : jS} {a1 : Int32} {a2 : Int32} {a3 : Int32} {vE : Int32} {cE : jS} (h : xComparer_same 130 c a1 a2 a3 = some (vE, cE)) : jC l D G 132 M_xComparer_same [.ref 20, .int a1, .int a2, .int a3] (jmix c r) (some (.int vE)) (jmix cE r) := (tg_xComparer_same 130).1 _ _ _ _ _ _ _ h

theorem t_xComparer_sameUnder {l : Launch} {D : va_G} {G : Nat → ClassId} {c r : jS} {a1 : Int32} {a2 : Int32} {a3 : Int32} {a4 : Int32} {a5 : Int32} {vE : Int32} {cE : jS} (h : xComparer_sameUnder 130 c a1 a2 a3 a4 a5 = some (vE, cE)) : jC l D G 132 M_xComparer_sameUnder [.ref 20, .int a1, .int a2, .int a3, .int a4, .int a5] (jmix c r) (some (.int vE)) (jmix cE r) := (tg_xComparer_same 130).2 _ _ _ _ _ _ _ _ _ h

set_option maxHeartbeats 4000000 in
set_option maxRecDepth 100000 in
theorem tl_xComparer_areAlike_L2 {X : jX} {d : Nat} {r : jS} {vE : Int32} {cE : jS} (hX : jOk X RX0 cX0_areAlike 4 d) (hdp : 133 ≤ d) (hE : jEnd X (some .boolean) 0 0 (fun r0 n0 h0 => r0 = (some (.int vE)) ∧ n0 = jN ∧ h0 = jE (jmix cE r))) : ∀ (v1 : Int32) (v2 : Int32) (v3 : Int32) (c : jS), xComparer_areAlike_L2 v1 v2 v3 c = some (vE, cE) → J X 0 0 jN (jE (jmix c r)) [(0, .ref 20), (1, .int v1), (2, .int v2), (3, .int v3)] [] 2 := by
  intro v1 v2 v3 c h
  unfold xComparer_areAlike_L2 at h
  replace h := lp_some h
  obtain ⟨k_2, h⟩ := h
  induction k_2 generalizing v1 v2 v3 c with
  | zero => cases h
  | succ k_2 ih_2 =>
    replace h : lq (fun s : (Int32 × Int32 × Int32 × jS) => xComparer_areAlike_S2 s.1 s.2.1 s.2.2.1 s.2.2.2) k_2 (vE, cE) (xComparer_areAlike_S2 v1 v2 v3 c) := lpk_succ (s := (v1, v2, v3, c)) h
    conv at h => arg 4; unfold xComparer_areAlike_S2
    refine j_iload_n (pc := 2) hX dX0_areAlike_2 rfl rfl ?_
    refine j_bipush (pc := 3) (v := (26 : Int32)) hX dX0_areAlike_3 (by decide) ?_
    refine j_icmp_ge (pc := 5) (tgt := 30) hX dX0_areAlike_5 (by decide) (fun z => ?_) (fun z => ?_)
    · replace h := lq_t z h
      refine j_aload_n (pc := 30) hX dX0_areAlike_30 rfl rfl ?_
      refine j_iload_n (pc := 31) hX dX0_areAlike_31 rfl rfl ?_
      refine j_iload_n (pc := 32) hX dX0_areAlike_32 rfl rfl ?_
      refine j_iconst (pc := 33) (v := (0 : Int32)) hX dX0_areAlike_33 (by decide) ?_
      obtain ⟨r1, c2, h1, h⟩ := lq_bd h
      refine k_callVI (pc := 34) (st := []) hX ln_0_22 dX0_areAlike_34 (t_xComparer_same h1) rfl rfl rfl (by omega) (Nat.le_of_ble_eq_true rfl) ?_
      obtain ⟨hb, h⟩ := lq_gd h
      replace h := lq_r h
      obtain ⟨h, h0⟩ := Prod.mk.inj (Option.some.inj h)
      subst h h0
      exact j_iret (pc := 37) hX hE rfl (bz_nar hb) dX0_areAlike_37 (Nat.le_refl 0) (Nat.le_refl 0) ⟨rfl, rfl, rfl⟩
    · replace h := lq_f z h
      refine j_aload_n (pc := 8) hX dX0_areAlike_8 rfl rfl ?_
      refine k_getR (pc := 9) (q := 21) hX fl_0_9 dX0_areAlike_9 rfl rfl ?_
      refine j_iload_n (pc := 12) hX dX0_areAlike_12 rfl rfl ?_
      refine j_bipush (pc := 13) (v := (-2 : Int32)) hX dX0_areAlike_13 (by decide) ?_
      obtain ⟨hg, h⟩ := lq_gd h
      obtain ⟨c3, hc, h⟩ := lq_lt h
      refine k_iast (pc := 15) (c' := jmix c3 r) hX dX0_areAlike_15 rfl hg (jmix_xe rfl hc) ?_
      refine j_aload_n (pc := 16) hX dX0_areAlike_16 rfl rfl ?_
      refine k_getR (pc := 17) (q := 22) hX fl_0_15 dX0_areAlike_17 rfl rfl ?_
      refine j_iload_n (pc := 20) hX dX0_areAlike_20 rfl rfl ?_
      refine j_bipush (pc := 21) (v := (-2 : Int32)) hX dX0_areAlike_21 (by decide) ?_
      obtain ⟨hg, h⟩ := lq_gd h
      obtain ⟨c4, hc, h⟩ := lq_lt h
      refine k_iast (pc := 23) (c' := jmix c4 r) hX dX0_areAlike_23 rfl hg (jmix_xe rfl hc) ?_
      refine j_iinc (pc := 24) hX dX0_areAlike_24 rfl (v := (v3 + (1 : Int32))) rfl (by decide) (by decide) ?_
      refine j_goto (pc := 27) (tgt := 2) hX dX0_areAlike_27 (by decide) ?_
      refine j_sub (lv' := [(0, .ref 20), (1, .int v1), (2, .int v2), (3, .int (v3 + (1 : Int32)))]) ⟨rfl, rfl, rfl, rfl, trivial⟩ ?_
      exact ih_2 _ _ _ _ (lq_l h)
set_option maxHeartbeats 4000000 in
set_option maxRecDepth 100000 in
theorem t_xComparer_areAlike {l : Launch} {D : va_G} {G : Nat → ClassId} {d : Nat} (hdp : 133 ≤ d) {c r : jS} {a1 : Int32} {a2 : Int32} {vE : Int32} {cE : jS} (h : xComparer_areAlike c a1 a2 = some (vE, cE)) : jC l D G d M_xComparer_areAlike [.ref 20, .int a1, .int a2] (jmix c r) (some (.int vE)) (jmix cE r) := by
  refine jM_of rfl (Nat.le_of_ble_eq_true rfl) ?_
  intro X hl hD hG _ _ hX hE _
  subst hl hD hG
  unfold xComparer_areAlike at h
  show J X 0 0 jN (jE (jmix c r)) [(0, .ref 20), (1, .int a1), (2, .int a2)] [] 0
  refine j_iconst (pc := 0) (v := (0 : Int32)) hX dX0_areAlike_0 (by decide) ?_
  refine j_istore_n (pc := 1) hX dX0_areAlike_1 rfl (by decide) (by decide) ?_
  refine j_sub (lv' := [(0, .ref 20), (1, .int a1), (2, .int a2), (3, .int (0 : Int32))]) ⟨rfl, rfl, rfl, rfl, trivial⟩ ?_
  exact tl_xComparer_areAlike_L2 hX hdp hE _ _ _ _ h

set_option maxHeartbeats 4000000 in
set_option maxRecDepth 100000 in
theorem t_xTerms_freeLettersOf {l : Launch} {D : va_G} {G : Nat → ClassId} {d : Nat} (hdp : 1 ≤ d) {c r : jS} {a1 : Int32} {vE : Int32} (h : xTerms_freeLettersOf c a1 = some vE) : jC l D G d M_xTerms_freeLettersOf [.ref 5, .int a1] (jmix c r) (some (.int vE)) (jmix c r) := by
  refine jM_of rfl (Nat.le_of_ble_eq_true rfl) ?_
  intro X hl hD hG _ _ hX hE _
  subst hl hD hG
  unfold xTerms_freeLettersOf at h
  show J X 0 0 jN (jE (jmix c r)) [(0, .ref 5), (1, .int a1)] [] 0
  refine j_aload_n (pc := 0) hX dX6_freeLettersOf_0 rfl rfl ?_
  refine j_iload_n (pc := 1) hX dX6_freeLettersOf_1 rfl rfl ?_
  obtain ⟨r1, h1, h⟩ := ob_some h
  refine k_callVI (pc := 2) (st := []) hX ln_6_53 dX6_freeLettersOf_2 (t_xTerms_has (d := 0) (Nat.le_refl _) h1) rfl rfl rfl (by omega) (Nat.le_of_ble_eq_true rfl) ?_
  refine j_if_eq (pc := 5) (tgt := 17) hX dX6_freeLettersOf_5 (by decide) (fun z => ?_) (fun z => ?_)
  · replace h := ite_t z h
    refine j_iconst (pc := 17) (v := (0 : Int32)) hX dX6_freeLettersOf_17 (by decide) ?_
    replace h := Option.some.inj h
    subst h
    exact j_iret (pc := 18) hX hE rfl rfl dX6_freeLettersOf_18 (Nat.le_refl 0) (Nat.le_refl 0) ⟨rfl, rfl, rfl⟩
  · replace h := ite_f z h
    refine j_aload_n (pc := 8) hX dX6_freeLettersOf_8 rfl rfl ?_
    refine k_getR (pc := 9) (q := 15) hX fl_6_39 dX6_freeLettersOf_9 rfl rfl ?_
    refine j_iload_n (pc := 12) hX dX6_freeLettersOf_12 rfl rfl ?_
    obtain ⟨hg, h⟩ := gd_some h
    refine k_iald (pc := 13) (x := (c 15 (a1).toNatClampNeg)) hX dX6_freeLettersOf_13 rfl hg rfl ?_
    refine j_goto (pc := 14) (tgt := 18) hX dX6_freeLettersOf_14 (by decide) ?_
    replace h := Option.some.inj h
    subst h
    exact j_iret (pc := 18) hX hE rfl rfl dX6_freeLettersOf_18 (Nat.le_refl 0) (Nat.le_refl 0) ⟨rfl, rfl, rfl⟩

set_option maxHeartbeats 4000000 in
set_option maxRecDepth 100000 in
theorem t_xTerms_bit {l : Launch} {D : va_G} {G : Nat → ClassId} {d : Nat} (hdp : 0 ≤ d) {c r : jS} {a0 : Int32} {vE : Int32} (h : xTerms_bit c a0 = some vE) : jC l D G d M_xTerms_bit [.int a0] (jmix c r) (some (.int vE)) (jmix c r) := by
  refine jM_of rfl (Nat.le_of_ble_eq_true rfl) ?_
  intro X hl hD hG _ _ hX hE _
  subst hl hD hG
  unfold xTerms_bit at h
  show J X 0 0 jN (jE (jmix c r)) [(0, .int a0)] [] 0
  refine j_iload_n (pc := 0) hX dX6_bit_0 rfl rfl ?_
  refine j_if_lt (pc := 1) (tgt := 16) hX dX6_bit_1 (by decide) (fun z => ?_) (fun z => ?_)
  · replace h := ite_t z h
    refine j_iconst (pc := 16) (v := (0 : Int32)) hX dX6_bit_16 (by decide) ?_
    replace h := Option.some.inj h
    subst h
    exact j_iret (pc := 17) hX hE rfl rfl dX6_bit_17 (Nat.le_refl 0) (Nat.le_refl 0) ⟨rfl, rfl, rfl⟩
  · replace h := ite_f z h
    refine j_iload_n (pc := 4) hX dX6_bit_4 rfl rfl ?_
    refine j_bipush (pc := 5) (v := (26 : Int32)) hX dX6_bit_5 (by decide) ?_
    refine j_icmp_ge (pc := 7) (tgt := 16) hX dX6_bit_7 (by decide) (fun z => ?_) (fun z => ?_)
    · replace h := ite_t z h
      refine j_iconst (pc := 16) (v := (0 : Int32)) hX dX6_bit_16 (by decide) ?_
      replace h := Option.some.inj h
      subst h
      exact j_iret (pc := 17) hX hE rfl rfl dX6_bit_17 (Nat.le_refl 0) (Nat.le_refl 0) ⟨rfl, rfl, rfl⟩
    · replace h := ite_f z h
      refine j_iconst (pc := 10) (v := (1 : Int32)) hX dX6_bit_10 (by decide) ?_
      refine j_iload_n (pc := 11) hX dX6_bit_11 rfl rfl ?_
      refine j_ishl (pc := 12) hX dX6_bit_12 ?_
      refine j_goto (pc := 13) (tgt := 17) hX dX6_bit_13 (by decide) ?_
      replace h := Option.some.inj h
      subst h
      exact j_iret (pc := 17) hX hE rfl rfl dX6_bit_17 (Nat.le_refl 0) (Nat.le_refl 0) ⟨rfl, rfl, rfl⟩

set_option maxHeartbeats 4000000 in
set_option maxRecDepth 100000 in
theorem t_xTerms_isFree {l : Launch} {D : va_G} {G : Nat → ClassId} {d : Nat} (hdp : 2 ≤ d) {c r : jS} {a1 : Int32} {a2 : Int32} {vE : Int32} (h : xTerms_isFree c a1 a2 = some vE) : jC l D G d M_xTerms_isFree [.ref 5, .int a1, .int a2] (jmix c r) (some (.int vE)) (jmix c r) := by
  refine jM_of rfl (Nat.le_of_ble_eq_true rfl) ?_
  intro X hl hD hG _ _ hX hE _
  subst hl hD hG
  unfold xTerms_isFree at h
  show J X 0 0 jN (jE (jmix c r)) [(0, .ref 5), (1, .int a1), (2, .int a2)] [] 0
  refine j_aload_n (pc := 0) hX dX6_isFree_0 rfl rfl ?_
  refine j_iload_n (pc := 1) hX dX6_isFree_1 rfl rfl ?_
  obtain ⟨r1, h1, h⟩ := ob_some h
  refine k_callVI (pc := 2) (st := []) hX ln_6_57 dX6_isFree_2 (t_xTerms_freeLettersOf (d := 1) (Nat.le_refl _) h1) rfl rfl rfl (by omega) (Nat.le_of_ble_eq_true rfl) ?_
  refine j_iload_n (pc := 5) hX dX6_isFree_5 rfl rfl ?_
  obtain ⟨r2, h1, h⟩ := ob_some h
  refine k_callSI (pc := 6) (st := [.int r1]) hX ln_6_61 dX6_isFree_6 (t_xTerms_bit (d := 0) (Nat.le_refl _) h1) rfl rfl (by omega) (Nat.le_of_ble_eq_true rfl) ?_
  refine j_iand (pc := 9) hX dX6_isFree_9 ?_
  refine j_if_eq (pc := 10) (tgt := 17) hX dX6_isFree_10 (by decide) (fun z => ?_) (fun z => ?_)
  · replace h := ite_t z h
    refine j_iconst (pc := 17) (v := (0 : Int32)) hX dX6_isFree_17 (by decide) ?_
    replace h := Option.some.inj h
    subst h
    exact j_iret (pc := 18) hX hE rfl rfl dX6_isFree_18 (Nat.le_refl 0) (Nat.le_refl 0) ⟨rfl, rfl, rfl⟩
  · replace h := ite_f z h
    refine j_iconst (pc := 13) (v := (1 : Int32)) hX dX6_isFree_13 (by decide) ?_
    refine j_goto (pc := 14) (tgt := 18) hX dX6_isFree_14 (by decide) ?_
    replace h := Option.some.inj h
    subst h
    exact j_iret (pc := 18) hX hE rfl rfl dX6_isFree_18 (Nat.le_refl 0) (Nat.le_refl 0) ⟨rfl, rfl, rfl⟩

set_option maxHeartbeats 4000000 in
set_option maxRecDepth 100000 in
theorem t_xTerms_depthOf {l : Launch} {D : va_G} {G : Nat → ClassId} {d : Nat} (hdp : 1 ≤ d) {c r : jS} {a1 : Int32} {vE : Int32} (h : xTerms_depthOf c a1 = some vE) : jC l D G d M_xTerms_depthOf [.ref 5, .int a1] (jmix c r) (some (.int vE)) (jmix c r) := by
  refine jM_of rfl (Nat.le_of_ble_eq_true rfl) ?_
  intro X hl hD hG _ _ hX hE _
  subst hl hD hG
  unfold xTerms_depthOf at h
  show J X 0 0 jN (jE (jmix c r)) [(0, .ref 5), (1, .int a1)] [] 0
  refine j_aload_n (pc := 0) hX dX6_depthOf_0 rfl rfl ?_
  refine j_iload_n (pc := 1) hX dX6_depthOf_1 rfl rfl ?_
  obtain ⟨r1, h1, h⟩ := ob_some h
  refine k_callVI (pc := 2) (st := []) hX ln_6_53 dX6_depthOf_2 (t_xTerms_has (d := 0) (Nat.le_refl _) h1) rfl rfl rfl (by omega) (Nat.le_of_ble_eq_true rfl) ?_
  refine j_if_eq (pc := 5) (tgt := 17) hX dX6_depthOf_5 (by decide) (fun z => ?_) (fun z => ?_)
  · replace h := ite_t z h
    refine j_iconst (pc := 17) (v := (0 : Int32)) hX dX6_depthOf_17 (by decide) ?_
    replace h := Option.some.inj h
    subst h
    exact j_iret (pc := 18) hX hE rfl rfl dX6_depthOf_18 (Nat.le_refl 0) (Nat.le_refl 0) ⟨rfl, rfl, rfl⟩
  · replace h := ite_f z h
    refine j_aload_n (pc := 8) hX dX6_depthOf_8 rfl rfl ?_
    refine k_getR (pc := 9) (q := 14) hX fl_6_36 dX6_depthOf_9 rfl rfl ?_
    refine j_iload_n (pc := 12) hX dX6_depthOf_12 rfl rfl ?_
    obtain ⟨hg, h⟩ := gd_some h
    refine k_iald (pc := 13) (x := (c 14 (a1).toNatClampNeg)) hX dX6_depthOf_13 rfl hg rfl ?_
    refine j_goto (pc := 14) (tgt := 18) hX dX6_depthOf_14 (by decide) ?_
    replace h := Option.some.inj h
    subst h
    exact j_iret (pc := 18) hX hE rfl rfl dX6_depthOf_18 (Nat.le_refl 0) (Nat.le_refl 0) ⟨rfl, rfl, rfl⟩

set_option maxHeartbeats 4000000 in
set_option maxRecDepth 100000 in
theorem t_xTerms_freeLettersFor {l : Launch} {D : va_G} {G : Nat → ClassId} {d : Nat} (hdp : 0 ≤ d) {c r : jS} {a0 : Int32} {a1 : Int32} {a2 : Int32} {a3 : Int32} {a4 : Int32} {vE : Int32} (h : xTerms_freeLettersFor c a0 a1 a2 a3 a4 = some vE) : jC l D G d M_xTerms_freeLettersFor [.int a0, .int a1, .int a2, .int a3, .int a4] (jmix c r) (some (.int vE)) (jmix c r) := by
  refine jM_of rfl (Nat.le_of_ble_eq_true rfl) ?_
  intro X hl hD hG _ _ hX hE _
  subst hl hD hG
  unfold xTerms_freeLettersFor at h
  show J X 0 0 jN (jE (jmix c r)) [(0, .int a0), (1, .int a1), (2, .int a2), (3, .int a3), (4, .int a4)] [] 0
  refine j_iload_n (pc := 0) hX dX6_freeLettersFor_0 rfl rfl ?_
  by_cases z1 : a0 = 1
  · replace h := ite_t z1 h
    refine j_tabEq (pc := 1) (tgt := 32) 1 hX dX6_freeLettersFor_1 z1 (by decide) (by decide) rfl (by decide) ?_
    refine j_iload_n (pc := 32) hX dX6_freeLettersFor_32 rfl rfl ?_
    replace h := Option.some.inj h
    subst h
    exact j_iret (pc := 33) hX hE rfl rfl dX6_freeLettersFor_33 (Nat.le_refl 0) (Nat.le_refl 0) ⟨rfl, rfl, rfl⟩
  replace h := ite_f z1 h
  by_cases z2 : a0 = 2
  · replace h := ite_t z2 h
    refine j_tabEq (pc := 1) (tgt := 34) 2 hX dX6_freeLettersFor_1 z2 (by decide) (by decide) rfl (by decide) ?_
    refine j_iload_n (pc := 34) hX dX6_freeLettersFor_34 rfl rfl ?_
    refine j_iload_n (pc := 35) hX dX6_freeLettersFor_35 rfl rfl ?_
    refine j_iconst (pc := 36) (v := (-1 : Int32)) hX dX6_freeLettersFor_36 (by decide) ?_
    refine j_ixor (pc := 37) hX dX6_freeLettersFor_37 ?_
    refine j_iand (pc := 38) hX dX6_freeLettersFor_38 ?_
    replace h := Option.some.inj h
    subst h
    exact j_iret (pc := 39) hX hE rfl rfl dX6_freeLettersFor_39 (Nat.le_refl 0) (Nat.le_refl 0) ⟨rfl, rfl, rfl⟩
  replace h := ite_f z2 h
  by_cases z4 : a0 = 4
  · replace h := ite_t z4 h
    refine j_tabEq (pc := 1) (tgt := 40) 4 hX dX6_freeLettersFor_1 z4 (by decide) (by decide) rfl (by decide) ?_
    refine j_iload_n (pc := 40) hX dX6_freeLettersFor_40 rfl rfl ?_
    refine j_iload_n (pc := 41) hX dX6_freeLettersFor_41 rfl rfl ?_
    refine j_iload_n (pc := 42) hX dX6_freeLettersFor_42 rfl rfl ?_
    refine j_iconst (pc := 43) (v := (-1 : Int32)) hX dX6_freeLettersFor_43 (by decide) ?_
    refine j_ixor (pc := 44) hX dX6_freeLettersFor_44 ?_
    refine j_iand (pc := 45) hX dX6_freeLettersFor_45 ?_
    refine j_ior (pc := 46) hX dX6_freeLettersFor_46 ?_
    replace h := Option.some.inj h
    subst h
    exact j_iret (pc := 47) hX hE rfl rfl dX6_freeLettersFor_47 (Nat.le_refl 0) (Nat.le_refl 0) ⟨rfl, rfl, rfl⟩
  replace h := ite_f z4 h
  by_cases z3 : a0 = 3
  · refine j_tabEq (pc := 1) (tgt := 48) 3 hX dX6_freeLettersFor_1 z3 (by decide) (by decide) rfl (by decide) ?_
    refine j_iload_n (pc := 48) hX dX6_freeLettersFor_48 rfl rfl ?_
    refine j_iload_n (pc := 49) hX dX6_freeLettersFor_49 rfl rfl ?_
    refine j_ior (pc := 50) hX dX6_freeLettersFor_50 ?_
    refine j_iload (pc := 51) hX dX6_freeLettersFor_51 rfl ?_
    refine j_ior (pc := 53) hX dX6_freeLettersFor_53 ?_
    replace h := Option.some.inj h
    subst h
    exact j_iret (pc := 54) hX hE rfl rfl dX6_freeLettersFor_54 (Nat.le_refl 0) (Nat.le_refl 0) ⟨rfl, rfl, rfl⟩
  refine j_tabOut (pc := 1) (tgt := 48) hX dX6_freeLettersFor_1 (by have yz1 := lv_neT (a := 1) z1 (by decide); have yz2 := lv_neT (a := 2) z2 (by decide); have yz4 := lv_neT (a := 4) z4 (by decide); have yz3 := lv_neT (a := 3) z3 (by decide); omega) (by decide) ?_
  refine j_iload_n (pc := 48) hX dX6_freeLettersFor_48 rfl rfl ?_
  refine j_iload_n (pc := 49) hX dX6_freeLettersFor_49 rfl rfl ?_
  refine j_ior (pc := 50) hX dX6_freeLettersFor_50 ?_
  refine j_iload (pc := 51) hX dX6_freeLettersFor_51 rfl ?_
  refine j_ior (pc := 53) hX dX6_freeLettersFor_53 ?_
  replace h := Option.some.inj h
  subst h
  exact j_iret (pc := 54) hX hE rfl rfl dX6_freeLettersFor_54 (Nat.le_refl 0) (Nat.le_refl 0) ⟨rfl, rfl, rfl⟩

set_option maxHeartbeats 4000000 in
set_option maxRecDepth 100000 in
theorem t_xTerms_marksOf {l : Launch} {D : va_G} {G : Nat → ClassId} {d : Nat} (hdp : 0 ≤ d) {c r : jS} {a0 : Int32} {vE : Int32} (h : xTerms_marksOf c a0 = some vE) : jC l D G d M_xTerms_marksOf [.int a0] (jmix c r) (some (.int vE)) (jmix c r) := by
  refine jM_of rfl (Nat.le_of_ble_eq_true rfl) ?_
  intro X hl hD hG _ _ hX hE _
  subst hl hD hG
  unfold xTerms_marksOf at h
  show J X 0 0 jN (jE (jmix c r)) [(0, .int a0)] [] 0
  refine j_iload_n (pc := 0) hX dX6_marksOf_0 rfl rfl ?_
  by_cases z1 : a0 = 1
  · replace h := ite_t z1 h
    refine j_tabEq (pc := 1) (tgt := 40) 1 hX dX6_marksOf_1 z1 (by decide) (by decide) rfl (by decide) ?_
    refine j_iconst (pc := 40) (v := (1 : Int32)) hX dX6_marksOf_40 (by decide) ?_
    replace h := Option.some.inj h
    subst h
    exact j_iret (pc := 41) hX hE rfl rfl dX6_marksOf_41 (Nat.le_refl 0) (Nat.le_refl 0) ⟨rfl, rfl, rfl⟩
  replace h := ite_f z1 h
  by_cases z2 : a0 = 2
  · replace h := ite_t z2 h
    refine j_tabEq (pc := 1) (tgt := 42) 2 hX dX6_marksOf_1 z2 (by decide) (by decide) rfl (by decide) ?_
    refine j_iconst (pc := 42) (v := (4 : Int32)) hX dX6_marksOf_42 (by decide) ?_
    replace h := Option.some.inj h
    subst h
    exact j_iret (pc := 43) hX hE rfl rfl dX6_marksOf_43 (Nat.le_refl 0) (Nat.le_refl 0) ⟨rfl, rfl, rfl⟩
  replace h := ite_f z2 h
  by_cases z3 : a0 = 3
  · replace h := ite_t z3 h
    refine j_tabEq (pc := 1) (tgt := 44) 3 hX dX6_marksOf_1 z3 (by decide) (by decide) rfl (by decide) ?_
    refine j_iconst (pc := 44) (v := (3 : Int32)) hX dX6_marksOf_44 (by decide) ?_
    replace h := Option.some.inj h
    subst h
    exact j_iret (pc := 45) hX hE rfl rfl dX6_marksOf_45 (Nat.le_refl 0) (Nat.le_refl 0) ⟨rfl, rfl, rfl⟩
  replace h := ite_f z3 h
  by_cases z4 : a0 = 4
  · replace h := ite_t z4 h
    refine j_tabEq (pc := 1) (tgt := 46) 4 hX dX6_marksOf_1 z4 (by decide) (by decide) rfl (by decide) ?_
    refine j_iconst (pc := 46) (v := (4 : Int32)) hX dX6_marksOf_46 (by decide) ?_
    replace h := Option.some.inj h
    subst h
    exact j_iret (pc := 47) hX hE rfl rfl dX6_marksOf_47 (Nat.le_refl 0) (Nat.le_refl 0) ⟨rfl, rfl, rfl⟩
  replace h := ite_f z4 h
  by_cases z5 : a0 = 5
  · replace h := ite_t z5 h
    refine j_tabEq (pc := 1) (tgt := 48) 5 hX dX6_marksOf_1 z5 (by decide) (by decide) rfl (by decide) ?_
    refine j_iconst (pc := 48) (v := (3 : Int32)) hX dX6_marksOf_48 (by decide) ?_
    replace h := Option.some.inj h
    subst h
    exact j_iret (pc := 49) hX hE rfl rfl dX6_marksOf_49 (Nat.le_refl 0) (Nat.le_refl 0) ⟨rfl, rfl, rfl⟩
  replace h := ite_f z5 h
  by_cases z6 : a0 = 6
  · replace h := ite_t z6 h
    refine j_tabEq (pc := 1) (tgt := 50) 6 hX dX6_marksOf_1 z6 (by decide) (by decide) rfl (by decide) ?_
    refine j_iconst (pc := 50) (v := (4 : Int32)) hX dX6_marksOf_50 (by decide) ?_
    replace h := Option.some.inj h
    subst h
    exact j_iret (pc := 51) hX hE rfl rfl dX6_marksOf_51 (Nat.le_refl 0) (Nat.le_refl 0) ⟨rfl, rfl, rfl⟩
  replace h := ite_f z6 h
  refine j_tabOut (pc := 1) (tgt := 52) hX dX6_marksOf_1 (by have yz1 := lv_neT (a := 1) z1 (by decide); have yz2 := lv_neT (a := 2) z2 (by decide); have yz3 := lv_neT (a := 3) z3 (by decide); have yz4 := lv_neT (a := 4) z4 (by decide); have yz5 := lv_neT (a := 5) z5 (by decide); have yz6 := lv_neT (a := 6) z6 (by decide); omega) (by decide) ?_
  refine j_iconst (pc := 52) (v := (0 : Int32)) hX dX6_marksOf_52 (by decide) ?_
  replace h := Option.some.inj h
  subst h
  exact j_iret (pc := 53) hX hE rfl rfl dX6_marksOf_53 (Nat.le_refl 0) (Nat.le_refl 0) ⟨rfl, rfl, rfl⟩

set_option maxHeartbeats 4000000 in
set_option maxRecDepth 100000 in
theorem t_xTypes_has {l : Launch} {D : va_G} {G : Nat → ClassId} {d : Nat} (hdp : 0 ≤ d) {c r : jS} {a1 : Int32} {vE : Int32} (h : xTypes_has c a1 = some vE) : jC l D G d M_xTypes_has [.ref 1, .int a1] (jmix c r) (some (.int vE)) (jmix c r) := by
  refine jM_of rfl (Nat.le_of_ble_eq_true rfl) ?_
  intro X hl hD hG _ _ hX hE _
  subst hl hD hG
  unfold xTypes_has at h
  show J X 0 0 jN (jE (jmix c r)) [(0, .ref 1), (1, .int a1)] [] 0
  refine j_iload_n (pc := 0) hX dX7_has_0 rfl rfl ?_
  refine j_if_lt (pc := 1) (tgt := 22) hX dX7_has_1 (by decide) (fun z => ?_) (fun z => ?_)
  · replace h := ite_t z h
    refine j_iconst (pc := 22) (v := (0 : Int32)) hX dX7_has_22 (by decide) ?_
    replace h := Option.some.inj h
    subst h
    exact j_iret (pc := 23) hX hE rfl rfl dX7_has_23 (Nat.le_refl 0) (Nat.le_refl 0) ⟨rfl, rfl, rfl⟩
  · replace h := ite_f z h
    refine j_iload_n (pc := 4) hX dX7_has_4 rfl rfl ?_
    refine j_aload_n (pc := 5) hX dX7_has_5 rfl rfl ?_
    refine k_getI (pc := 6) (x := (c 1 3)) hX fl_7_21 dX7_has_6 rfl rfl rfl ?_
    refine j_icmp_ge (pc := 9) (tgt := 22) hX dX7_has_9 (by decide) (fun z => ?_) (fun z => ?_)
    · replace h := ite_t z h
      refine j_iconst (pc := 22) (v := (0 : Int32)) hX dX7_has_22 (by decide) ?_
      replace h := Option.some.inj h
      subst h
      exact j_iret (pc := 23) hX hE rfl rfl dX7_has_23 (Nat.le_refl 0) (Nat.le_refl 0) ⟨rfl, rfl, rfl⟩
    · replace h := ite_f z h
      refine j_iload_n (pc := 12) hX dX7_has_12 rfl rfl ?_
      refine j_bipush (pc := 13) (v := (40 : Int32)) hX dX7_has_13 (by decide) ?_
      refine j_icmp_ge (pc := 15) (tgt := 22) hX dX7_has_15 (by decide) (fun z => ?_) (fun z => ?_)
      · replace h := ite_t z h
        refine j_iconst (pc := 22) (v := (0 : Int32)) hX dX7_has_22 (by decide) ?_
        replace h := Option.some.inj h
        subst h
        exact j_iret (pc := 23) hX hE rfl rfl dX7_has_23 (Nat.le_refl 0) (Nat.le_refl 0) ⟨rfl, rfl, rfl⟩
      · replace h := ite_f z h
        refine j_iconst (pc := 18) (v := (1 : Int32)) hX dX7_has_18 (by decide) ?_
        refine j_goto (pc := 19) (tgt := 23) hX dX7_has_19 (by decide) ?_
        replace h := Option.some.inj h
        subst h
        exact j_iret (pc := 23) hX hE rfl rfl dX7_has_23 (Nat.le_refl 0) (Nat.le_refl 0) ⟨rfl, rfl, rfl⟩

set_option maxHeartbeats 4000000 in
set_option maxRecDepth 100000 in
theorem t_xTypes_lengthOf {l : Launch} {D : va_G} {G : Nat → ClassId} {d : Nat} (hdp : 1 ≤ d) {c r : jS} {a1 : Int32} {vE : Int32} (h : xTypes_lengthOf c a1 = some vE) : jC l D G d M_xTypes_lengthOf [.ref 1, .int a1] (jmix c r) (some (.int vE)) (jmix c r) := by
  refine jM_of rfl (Nat.le_of_ble_eq_true rfl) ?_
  intro X hl hD hG _ _ hX hE _
  subst hl hD hG
  unfold xTypes_lengthOf at h
  show J X 0 0 jN (jE (jmix c r)) [(0, .ref 1), (1, .int a1)] [] 0
  refine j_aload_n (pc := 0) hX dX7_lengthOf_0 rfl rfl ?_
  refine j_iload_n (pc := 1) hX dX7_lengthOf_1 rfl rfl ?_
  obtain ⟨r1, h1, h⟩ := ob_some h
  refine k_callVI (pc := 2) (st := []) hX ln_7_25 dX7_lengthOf_2 (t_xTypes_has (d := 0) (Nat.le_refl _) h1) rfl rfl rfl (by omega) (Nat.le_of_ble_eq_true rfl) ?_
  refine j_if_eq (pc := 5) (tgt := 17) hX dX7_lengthOf_5 (by decide) (fun z => ?_) (fun z => ?_)
  · replace h := ite_t z h
    refine j_iconst (pc := 17) (v := (0 : Int32)) hX dX7_lengthOf_17 (by decide) ?_
    replace h := Option.some.inj h
    subst h
    exact j_iret (pc := 18) hX hE rfl rfl dX7_lengthOf_18 (Nat.le_refl 0) (Nat.le_refl 0) ⟨rfl, rfl, rfl⟩
  · replace h := ite_f z h
    refine j_aload_n (pc := 8) hX dX7_lengthOf_8 rfl rfl ?_
    refine k_getR (pc := 9) (q := 4) hX fl_7_18 dX7_lengthOf_9 rfl rfl ?_
    refine j_iload_n (pc := 12) hX dX7_lengthOf_12 rfl rfl ?_
    obtain ⟨hg, h⟩ := gd_some h
    refine k_iald (pc := 13) (x := (c 4 (a1).toNatClampNeg)) hX dX7_lengthOf_13 rfl hg rfl ?_
    refine j_goto (pc := 14) (tgt := 18) hX dX7_lengthOf_14 (by decide) ?_
    replace h := Option.some.inj h
    subst h
    exact j_iret (pc := 18) hX hE rfl rfl dX7_lengthOf_18 (Nat.le_refl 0) (Nat.le_refl 0) ⟨rfl, rfl, rfl⟩

set_option maxHeartbeats 4000000 in
set_option maxRecDepth 100000 in
theorem t_xTerms_widthOf {l : Launch} {D : va_G} {G : Nat → ClassId} {d : Nat} (hdp : 1 ≤ d) {c r : jS} {a1 : Int32} {vE : Int32} (h : xTerms_widthOf c a1 = some vE) : jC l D G d M_xTerms_widthOf [.ref 5, .int a1] (jmix c r) (some (.int vE)) (jmix c r) := by
  refine jM_of rfl (Nat.le_of_ble_eq_true rfl) ?_
  intro X hl hD hG _ _ hX hE _
  subst hl hD hG
  unfold xTerms_widthOf at h
  show J X 0 0 jN (jE (jmix c r)) [(0, .ref 5), (1, .int a1)] [] 0
  refine j_aload_n (pc := 0) hX dX6_widthOf_0 rfl rfl ?_
  refine j_iload_n (pc := 1) hX dX6_widthOf_1 rfl rfl ?_
  obtain ⟨r1, h1, h⟩ := ob_some h
  refine k_callVI (pc := 2) (st := []) hX ln_6_53 dX6_widthOf_2 (t_xTerms_has (d := 0) (Nat.le_refl _) h1) rfl rfl rfl (by omega) (Nat.le_of_ble_eq_true rfl) ?_
  refine j_if_eq (pc := 5) (tgt := 17) hX dX6_widthOf_5 (by decide) (fun z => ?_) (fun z => ?_)
  · replace h := ite_t z h
    refine j_iconst (pc := 17) (v := (0 : Int32)) hX dX6_widthOf_17 (by decide) ?_
    replace h := Option.some.inj h
    subst h
    exact j_iret (pc := 18) hX hE rfl rfl dX6_widthOf_18 (Nat.le_refl 0) (Nat.le_refl 0) ⟨rfl, rfl, rfl⟩
  · replace h := ite_f z h
    refine j_aload_n (pc := 8) hX dX6_widthOf_8 rfl rfl ?_
    refine k_getR (pc := 9) (q := 16) hX fl_6_42 dX6_widthOf_9 rfl rfl ?_
    refine j_iload_n (pc := 12) hX dX6_widthOf_12 rfl rfl ?_
    obtain ⟨hg, h⟩ := gd_some h
    refine k_iald (pc := 13) (x := (c 16 (a1).toNatClampNeg)) hX dX6_widthOf_13 rfl hg rfl ?_
    refine j_goto (pc := 14) (tgt := 18) hX dX6_widthOf_14 (by decide) ?_
    replace h := Option.some.inj h
    subst h
    exact j_iret (pc := 18) hX hE rfl rfl dX6_widthOf_18 (Nat.le_refl 0) (Nat.le_refl 0) ⟨rfl, rfl, rfl⟩

set_option maxHeartbeats 4000000 in
set_option maxRecDepth 100000 in
theorem t_xTerms_made {l : Launch} {D : va_G} {G : Nat → ClassId} {d : Nat} (hdp : 2 ≤ d) {c r : jS} {a1 : Int32} {a2 : Int32} {a3 : Int32} {a4 : Int32} {a5 : Int32} {a6 : Int32} {vE : Int32} {cE : jS} (h : xTerms_made c a1 a2 a3 a4 a5 a6 = some (vE, cE)) : jC l D G d M_xTerms_made [.ref 5, .int a1, .int a2, .int a3, .int a4, .int a5, .int a6] (jmix c r) (some (.int vE)) (jmix cE r) := by
  refine jM_of rfl (Nat.le_of_ble_eq_true rfl) ?_
  intro X hl hD hG _ _ hX hE _
  subst hl hD hG
  unfold xTerms_made at h
  show J X 0 0 jN (jE (jmix c r)) [(0, .ref 5), (1, .int a1), (2, .int a2), (3, .int a3), (4, .int a4), (5, .int a5), (6, .int a6)] [] 0
  refine j_iconst (pc := 0) (v := (1 : Int32)) hX dX6_made_0 (by decide) ?_
  refine j_aload_n (pc := 1) hX dX6_made_1 rfl rfl ?_
  refine j_iload (pc := 2) hX dX6_made_2 rfl ?_
  obtain ⟨r1, h1, h⟩ := ob_some h
  refine k_callVI (pc := 4) (st := [.int (1 : Int32)]) hX ln_6_97 dX6_made_4 (t_xTerms_sizeOf (d := 1) (Nat.le_refl _) h1) rfl rfl rfl (by omega) (Nat.le_of_ble_eq_true rfl) ?_
  refine j_iadd (pc := 7) hX dX6_made_7 ?_
  refine j_aload_n (pc := 8) hX dX6_made_8 rfl rfl ?_
  refine j_iload (pc := 9) hX dX6_made_9 rfl ?_
  obtain ⟨r2, h1, h⟩ := ob_some h
  refine k_callVI (pc := 11) (st := [.int ((1 : Int32) + r1)]) hX ln_6_97 dX6_made_11 (t_xTerms_sizeOf (d := 1) (Nat.le_refl _) h1) rfl rfl rfl (by omega) (Nat.le_of_ble_eq_true rfl) ?_
  refine j_iadd (pc := 14) hX dX6_made_14 ?_
  refine j_aload_n (pc := 15) hX dX6_made_15 rfl rfl ?_
  refine j_iload (pc := 16) hX dX6_made_16 rfl ?_
  obtain ⟨r3, h1, h⟩ := ob_some h
  refine k_callVI (pc := 18) (st := [.int (((1 : Int32) + r1) + r2)]) hX ln_6_97 dX6_made_18 (t_xTerms_sizeOf (d := 1) (Nat.le_refl _) h1) rfl rfl rfl (by omega) (Nat.le_of_ble_eq_true rfl) ?_
  refine j_iadd (pc := 21) hX dX6_made_21 ?_
  refine j_istore (pc := 22) hX dX6_made_22 (by decide) (by decide) ?_
  refine j_iconst (pc := 24) (v := (1 : Int32)) hX dX6_made_24 (by decide) ?_
  refine j_aload_n (pc := 25) hX dX6_made_25 rfl rfl ?_
  refine j_iload (pc := 26) hX dX6_made_26 rfl ?_
  obtain ⟨r4, h1, h⟩ := ob_some h
  refine k_callVI (pc := 28) (st := [.int (1 : Int32)]) hX ln_6_100 dX6_made_28 (t_xTerms_depthOf (d := 1) (Nat.le_refl _) h1) rfl rfl rfl (by omega) (Nat.le_of_ble_eq_true rfl) ?_
  refine j_aload_n (pc := 31) hX dX6_made_31 rfl rfl ?_
  refine j_iload (pc := 32) hX dX6_made_32 rfl ?_
  obtain ⟨r5, h1, h⟩ := ob_some h
  refine k_callVI (pc := 34) (st := [.int r4, .int (1 : Int32)]) hX ln_6_100 dX6_made_34 (t_xTerms_depthOf (d := 1) (Nat.le_refl _) h1) rfl rfl rfl (by omega) (Nat.le_of_ble_eq_true rfl) ?_
  refine j_aload_n (pc := 37) hX dX6_made_37 rfl rfl ?_
  refine j_iload (pc := 38) hX dX6_made_38 rfl ?_
  obtain ⟨r6, h1, h⟩ := ob_some h
  refine k_callVI (pc := 40) (st := [.int r5, .int r4, .int (1 : Int32)]) hX ln_6_100 dX6_made_40 (t_xTerms_depthOf (d := 1) (Nat.le_refl _) h1) rfl rfl rfl (by omega) (Nat.le_of_ble_eq_true rfl) ?_
  refine j_mmax (pc := 43) hX dX6_made_43 jdk_6_103 (by omega) (Nat.le_of_ble_eq_true rfl) ?_
  refine j_mmax (pc := 46) hX dX6_made_46 jdk_6_103 (by omega) (Nat.le_of_ble_eq_true rfl) ?_
  refine j_iadd (pc := 49) hX dX6_made_49 ?_
  refine j_istore (pc := 50) hX dX6_made_50 (by decide) (by decide) ?_
  refine j_aload_n (pc := 52) hX dX6_made_52 rfl rfl ?_
  refine k_getI (pc := 53) (x := (c 5 12)) hX fl_6_49 dX6_made_53 rfl rfl rfl ?_
  refine j_sipush (pc := 56) (v := (400 : Int32)) hX dX6_made_56 (by decide) ?_
  refine j_icmp_ge (pc := 59) (tgt := 77) hX dX6_made_59 (by decide) (fun z => ?_) (fun z => ?_)
  · replace h := ite_t z h
    refine j_bipush (pc := 77) (v := (-3 : Int32)) hX dX6_made_77 (by decide) ?_
    obtain ⟨h, h0⟩ := Prod.mk.inj (Option.some.inj h)
    subst h h0
    exact j_iret (pc := 79) hX hE rfl rfl dX6_made_79 (Nat.le_refl 0) (Nat.le_refl 0) ⟨rfl, rfl, rfl⟩
  · replace h := ite_f z h
    refine j_iload (pc := 62) hX dX6_made_62 rfl ?_
    refine j_sipush (pc := 64) (v := (1000 : Int32)) hX dX6_made_64 (by decide) ?_
    refine j_icmp_gt (pc := 67) (tgt := 77) hX dX6_made_67 (by decide) (fun z => ?_) (fun z => ?_)
    · replace h := ite_t z h
      refine j_bipush (pc := 77) (v := (-3 : Int32)) hX dX6_made_77 (by decide) ?_
      obtain ⟨h, h0⟩ := Prod.mk.inj (Option.some.inj h)
      subst h h0
      exact j_iret (pc := 79) hX hE rfl rfl dX6_made_79 (Nat.le_refl 0) (Nat.le_refl 0) ⟨rfl, rfl, rfl⟩
    · replace h := ite_f z h
      refine j_iload (pc := 70) hX dX6_made_70 rfl ?_
      refine j_bipush (pc := 72) (v := (40 : Int32)) hX dX6_made_72 (by decide) ?_
      refine j_icmp_le (pc := 74) (tgt := 80) hX dX6_made_74 (by decide) (fun z => ?_) (fun z => ?_)
      · replace h := ite_t z h
        refine j_aload_n (pc := 80) hX dX6_made_80 rfl rfl ?_
        refine k_getI (pc := 81) (x := (c 5 12)) hX fl_6_49 dX6_made_81 rfl rfl rfl ?_
        refine j_istore (pc := 84) hX dX6_made_84 (by decide) (by decide) ?_
        refine j_aload_n (pc := 86) hX dX6_made_86 rfl rfl ?_
        refine k_getR (pc := 87) (q := 6) hX fl_6_9 dX6_made_87 rfl rfl ?_
        refine j_iload (pc := 90) hX dX6_made_90 rfl ?_
        refine j_iload_n (pc := 92) hX dX6_made_92 rfl rfl ?_
        obtain ⟨hg, h⟩ := gd_some h
        obtain ⟨c7, hc, h⟩ := lt_some h
        refine k_iast (pc := 93) (c' := jmix c7 r) hX dX6_made_93 rfl hg (jmix_xe rfl hc) ?_
        refine j_aload_n (pc := 94) hX dX6_made_94 rfl rfl ?_
        refine k_getR (pc := 95) (q := 7) hX fl_6_15 dX6_made_95 rfl rfl ?_
        refine j_iload (pc := 98) hX dX6_made_98 rfl ?_
        refine j_iconst (pc := 100) (v := (0 : Int32)) hX dX6_made_100 (by decide) ?_
        obtain ⟨hg, h⟩ := gd_some h
        obtain ⟨c8, hc, h⟩ := lt_some h
        refine k_iast (pc := 101) (c' := jmix c8 r) hX dX6_made_101 rfl hg (jmix_xe rfl hc) ?_
        refine j_aload_n (pc := 102) hX dX6_made_102 rfl rfl ?_
        refine k_getR (pc := 103) (q := 8) hX fl_6_18 dX6_made_103 rfl rfl ?_
        refine j_iload (pc := 106) hX dX6_made_106 rfl ?_
        refine j_iload_n (pc := 108) hX dX6_made_108 rfl rfl ?_
        obtain ⟨hg, h⟩ := gd_some h
        obtain ⟨c9, hc, h⟩ := lt_some h
        refine k_iast (pc := 109) (c' := jmix c9 r) hX dX6_made_109 rfl hg (jmix_xe rfl hc) ?_
        refine j_aload_n (pc := 110) hX dX6_made_110 rfl rfl ?_
        refine k_getR (pc := 111) (q := 9) hX fl_6_21 dX6_made_111 rfl rfl ?_
        refine j_iload (pc := 114) hX dX6_made_114 rfl ?_
        refine j_iload_n (pc := 116) hX dX6_made_116 rfl rfl ?_
        obtain ⟨hg, h⟩ := gd_some h
        obtain ⟨c10, hc, h⟩ := lt_some h
        refine k_iast (pc := 117) (c' := jmix c10 r) hX dX6_made_117 rfl hg (jmix_xe rfl hc) ?_
        refine j_aload_n (pc := 118) hX dX6_made_118 rfl rfl ?_
        refine k_getR (pc := 119) (q := 10) hX fl_6_24 dX6_made_119 rfl rfl ?_
        refine j_iload (pc := 122) hX dX6_made_122 rfl ?_
        refine j_iload (pc := 124) hX dX6_made_124 rfl ?_
        obtain ⟨hg, h⟩ := gd_some h
        obtain ⟨c11, hc, h⟩ := lt_some h
        refine k_iast (pc := 126) (c' := jmix c11 r) hX dX6_made_126 rfl hg (jmix_xe rfl hc) ?_
        refine j_aload_n (pc := 127) hX dX6_made_127 rfl rfl ?_
        refine k_getR (pc := 128) (q := 11) hX fl_6_27 dX6_made_128 rfl rfl ?_
        refine j_iload (pc := 131) hX dX6_made_131 rfl ?_
        refine j_iload (pc := 133) hX dX6_made_133 rfl ?_
        obtain ⟨hg, h⟩ := gd_some h
        obtain ⟨c12, hc, h⟩ := lt_some h
        refine k_iast (pc := 135) (c' := jmix c12 r) hX dX6_made_135 rfl hg (jmix_xe rfl hc) ?_
        refine j_aload_n (pc := 136) hX dX6_made_136 rfl rfl ?_
        refine k_getR (pc := 137) (q := 12) hX fl_6_30 dX6_made_137 rfl rfl ?_
        refine j_iload (pc := 140) hX dX6_made_140 rfl ?_
        refine j_iload (pc := 142) hX dX6_made_142 rfl ?_
        obtain ⟨hg, h⟩ := gd_some h
        obtain ⟨c13, hc, h⟩ := lt_some h
        refine k_iast (pc := 144) (c' := jmix c13 r) hX dX6_made_144 rfl hg (jmix_xe rfl hc) ?_
        refine j_aload_n (pc := 145) hX dX6_made_145 rfl rfl ?_
        refine k_getR (pc := 146) (q := 13) hX fl_6_33 dX6_made_146 rfl rfl ?_
        refine j_iload (pc := 149) hX dX6_made_149 rfl ?_
        refine j_iload (pc := 151) hX dX6_made_151 rfl ?_
        obtain ⟨hg, h⟩ := gd_some h
        obtain ⟨c14, hc, h⟩ := lt_some h
        refine k_iast (pc := 153) (c' := jmix c14 r) hX dX6_made_153 rfl hg (jmix_xe rfl hc) ?_
        refine j_aload_n (pc := 154) hX dX6_made_154 rfl rfl ?_
        refine k_getR (pc := 155) (q := 14) hX fl_6_36 dX6_made_155 rfl rfl ?_
        refine j_iload (pc := 158) hX dX6_made_158 rfl ?_
        refine j_iload (pc := 160) hX dX6_made_160 rfl ?_
        obtain ⟨hg, h⟩ := gd_some h
        obtain ⟨c15, hc, h⟩ := lt_some h
        refine k_iast (pc := 162) (c' := jmix c15 r) hX dX6_made_162 rfl hg (jmix_xe rfl hc) ?_
        refine j_aload_n (pc := 163) hX dX6_made_163 rfl rfl ?_
        refine k_getR (pc := 164) (q := 15) hX fl_6_39 dX6_made_164 rfl rfl ?_
        refine j_iload (pc := 167) hX dX6_made_167 rfl ?_
        refine j_iload_n (pc := 169) hX dX6_made_169 rfl rfl ?_
        refine j_iload_n (pc := 170) hX dX6_made_170 rfl rfl ?_
        obtain ⟨r16, h1, h⟩ := ob_some h
        refine k_callSI (pc := 171) (st := [.int a1, .int (c 5 12), .ref 15]) hX ln_6_61 dX6_made_171 (t_xTerms_bit (d := 0) (Nat.le_refl _) h1) rfl rfl (by omega) (Nat.le_of_ble_eq_true rfl) ?_
        refine j_aload_n (pc := 174) hX dX6_made_174 rfl rfl ?_
        refine j_iload (pc := 175) hX dX6_made_175 rfl ?_
        obtain ⟨r17, h1, h⟩ := ob_some h
        refine k_callVI (pc := 177) (st := [.int r16, .int a1, .int (c 5 12), .ref 15]) hX ln_6_57 dX6_made_177 (t_xTerms_freeLettersOf (d := 1) (Nat.le_refl _) h1) rfl rfl rfl (by omega) (Nat.le_of_ble_eq_true rfl) ?_
        refine j_aload_n (pc := 180) hX dX6_made_180 rfl rfl ?_
        refine j_iload (pc := 181) hX dX6_made_181 rfl ?_
        obtain ⟨r18, h1, h⟩ := ob_some h
        refine k_callVI (pc := 183) (st := [.int r17, .int r16, .int a1, .int (c 5 12), .ref 15]) hX ln_6_57 dX6_made_183 (t_xTerms_freeLettersOf (d := 1) (Nat.le_refl _) h1) rfl rfl rfl (by omega) (Nat.le_of_ble_eq_true rfl) ?_
        refine j_aload_n (pc := 186) hX dX6_made_186 rfl rfl ?_
        refine j_iload (pc := 187) hX dX6_made_187 rfl ?_
        obtain ⟨r19, h1, h⟩ := ob_some h
        refine k_callVI (pc := 189) (st := [.int r18, .int r17, .int r16, .int a1, .int (c 5 12), .ref 15]) hX ln_6_57 dX6_made_189 (t_xTerms_freeLettersOf (d := 1) (Nat.le_refl _) h1) rfl rfl rfl (by omega) (Nat.le_of_ble_eq_true rfl) ?_
        obtain ⟨r20, h1, h⟩ := ob_some h
        refine k_callSI (pc := 192) (st := [.int (c 5 12), .ref 15]) hX ln_6_108 dX6_made_192 (t_xTerms_freeLettersFor (d := 0) (Nat.le_refl _) h1) rfl rfl (by omega) (Nat.le_of_ble_eq_true rfl) ?_
        obtain ⟨hg, h⟩ := gd_some h
        obtain ⟨c21, hc, h⟩ := lt_some h
        refine k_iast (pc := 195) (c' := jmix c21 r) hX dX6_made_195 rfl hg (jmix_xe rfl hc) ?_
        refine j_aload_n (pc := 196) hX dX6_made_196 rfl rfl ?_
        refine k_getR (pc := 197) (q := 16) hX fl_6_42 dX6_made_197 rfl rfl ?_
        refine j_iload (pc := 200) hX dX6_made_200 rfl ?_
        refine j_iload_n (pc := 202) hX dX6_made_202 rfl rfl ?_
        obtain ⟨r22, h1, h⟩ := ob_some h
        refine k_callSI (pc := 203) (st := [.int (c 5 12), .ref 16]) hX ln_6_112 dX6_made_203 (t_xTerms_marksOf (d := 0) (Nat.le_refl _) h1) rfl rfl (by omega) (Nat.le_of_ble_eq_true rfl) ?_
        refine j_aload_n (pc := 206) hX dX6_made_206 rfl rfl ?_
        refine k_getR (pc := 207) (q := 1) hX fl_6_45 dX6_made_207 rfl rfl ?_
        refine j_iload_n (pc := 210) hX dX6_made_210 rfl rfl ?_
        obtain ⟨r23, h1, h⟩ := ob_some h
        refine k_callVI (pc := 211) (st := [.int r22, .int (c 5 12), .ref 16]) hX ln_6_115 dX6_made_211 (t_xTypes_lengthOf (d := 1) (Nat.le_refl _) h1) rfl rfl rfl (by omega) (Nat.le_of_ble_eq_true rfl) ?_
        refine j_iadd (pc := 214) hX dX6_made_214 ?_
        refine j_aload_n (pc := 215) hX dX6_made_215 rfl rfl ?_
        refine j_iload (pc := 216) hX dX6_made_216 rfl ?_
        obtain ⟨r24, h1, h⟩ := ob_some h
        refine k_callVI (pc := 218) (st := [.int (r22 + r23), .int (c 5 12), .ref 16]) hX ln_6_120 dX6_made_218 (t_xTerms_widthOf (d := 1) (Nat.le_refl _) h1) rfl rfl rfl (by omega) (Nat.le_of_ble_eq_true rfl) ?_
        refine j_iadd (pc := 221) hX dX6_made_221 ?_
        refine j_aload_n (pc := 222) hX dX6_made_222 rfl rfl ?_
        refine j_iload (pc := 223) hX dX6_made_223 rfl ?_
        obtain ⟨r25, h1, h⟩ := ob_some h
        refine k_callVI (pc := 225) (st := [.int ((r22 + r23) + r24), .int (c 5 12), .ref 16]) hX ln_6_120 dX6_made_225 (t_xTerms_widthOf (d := 1) (Nat.le_refl _) h1) rfl rfl rfl (by omega) (Nat.le_of_ble_eq_true rfl) ?_
        refine j_iadd (pc := 228) hX dX6_made_228 ?_
        refine j_aload_n (pc := 229) hX dX6_made_229 rfl rfl ?_
        refine j_iload (pc := 230) hX dX6_made_230 rfl ?_
        obtain ⟨r26, h1, h⟩ := ob_some h
        refine k_callVI (pc := 232) (st := [.int (((r22 + r23) + r24) + r25), .int (c 5 12), .ref 16]) hX ln_6_120 dX6_made_232 (t_xTerms_widthOf (d := 1) (Nat.le_refl _) h1) rfl rfl rfl (by omega) (Nat.le_of_ble_eq_true rfl) ?_
        refine j_iadd (pc := 235) hX dX6_made_235 ?_
        obtain ⟨hg, h⟩ := gd_some h
        obtain ⟨c27, hc, h⟩ := lt_some h
        refine k_iast (pc := 236) (c' := jmix c27 r) hX dX6_made_236 rfl hg (jmix_xe rfl hc) ?_
        refine j_aload_n (pc := 237) hX dX6_made_237 rfl rfl ?_
        refine j_dup (pc := 238) hX dX6_made_238 rfl ?_
        refine k_getI (pc := 239) (x := (c27 5 12)) hX fl_6_49 dX6_made_239 rfl rfl rfl ?_
        refine j_iconst (pc := 242) (v := (1 : Int32)) hX dX6_made_242 (by decide) ?_
        refine j_iadd (pc := 243) hX dX6_made_243 ?_
        obtain ⟨c28, hc, h⟩ := lt_some h
        refine k_putI (pc := 244) (c' := jmix c28 r) hX pfl_6_49 dX6_made_244 rfl rfl (fun _ => ⟨rfl, rfl⟩) (jmix_xe rfl hc) ?_
        refine j_iload (pc := 247) hX dX6_made_247 rfl ?_
        obtain ⟨h, h0⟩ := Prod.mk.inj (Option.some.inj h)
        subst h h0
        exact j_iret (pc := 249) hX hE rfl rfl dX6_made_249 (Nat.le_refl 0) (Nat.le_refl 0) ⟨rfl, rfl, rfl⟩
      · replace h := ite_f z h
        refine j_bipush (pc := 77) (v := (-3 : Int32)) hX dX6_made_77 (by decide) ?_
        obtain ⟨h, h0⟩ := Prod.mk.inj (Option.some.inj h)
        subst h h0
        exact j_iret (pc := 79) hX hE rfl rfl dX6_made_79 (Nat.le_refl 0) (Nat.le_refl 0) ⟨rfl, rfl, rfl⟩

set_option maxHeartbeats 4000000 in
set_option maxRecDepth 100000 in
theorem tj_xTerms_withParts_P40 {X : jX} {d : Nat} {r : jS} {vE : Int32} {cE : jS} (hX : jOk X RX6 cX6_withParts 6 d) (hdp : 3 ≤ d) (hE : jEnd X (some .int) 0 0 (fun r0 n0 h0 => r0 = (some (.int vE)) ∧ n0 = jN ∧ h0 = jE (jmix cE r))) : ∀ (v1 : Int32) (v2 : Int32) (v3 : Int32) (v4 : Int32) (v5 : Int32) (c : jS), xTerms_withParts_P40 v1 v2 v3 v4 v5 c = some (vE, cE) → J X 0 0 jN (jE (jmix c r)) [(0, .ref 5), (1, .int v1), (2, .int v2), (3, .int v3), (4, .int v4), (5, .int v5)] [] 40 := by
  intro v1 v2 v3 v4 v5 c h
  unfold xTerms_withParts_P40 at h
  refine j_aload_n (pc := 40) hX dX6_withParts_40 rfl rfl ?_
  refine j_aload_n (pc := 41) hX dX6_withParts_41 rfl rfl ?_
  refine j_iload_n (pc := 42) hX dX6_withParts_42 rfl rfl ?_
  obtain ⟨r2, h1, h⟩ := ob_some h
  refine k_callVI (pc := 43) (st := [.ref 5]) hX ln_6_68 dX6_withParts_43 (t_xTerms_kindOf (d := 1) (Nat.le_refl _) h1) rfl rfl rfl (by omega) (Nat.le_of_ble_eq_true rfl) ?_
  refine j_iload_n (pc := 46) hX dX6_withParts_46 rfl rfl ?_
  refine j_aload_n (pc := 47) hX dX6_withParts_47 rfl rfl ?_
  refine j_iload_n (pc := 48) hX dX6_withParts_48 rfl rfl ?_
  obtain ⟨r3, h1, h⟩ := ob_some h
  refine k_callVI (pc := 49) (st := [.int v2, .int r2, .ref 5]) hX ln_6_94 dX6_withParts_49 (t_xTerms_typeOf (d := 1) (Nat.le_refl _) h1) rfl rfl rfl (by omega) (Nat.le_of_ble_eq_true rfl) ?_
  refine j_iload_n (pc := 52) hX dX6_withParts_52 rfl rfl ?_
  refine j_iload (pc := 53) hX dX6_withParts_53 rfl ?_
  refine j_iload (pc := 55) hX dX6_withParts_55 rfl ?_
  obtain ⟨r4, c5, h1, h⟩ := bd_some h
  refine k_callVI (pc := 57) (st := []) hX ln_6_87 dX6_withParts_57 (t_xTerms_made (d := 2) (Nat.le_refl _) h1) rfl rfl rfl (by omega) (Nat.le_of_ble_eq_true rfl) ?_
  obtain ⟨h, h0⟩ := Prod.mk.inj (Option.some.inj h)
  subst h h0
  exact j_iret (pc := 60) hX hE rfl rfl dX6_withParts_60 (Nat.le_refl 0) (Nat.le_refl 0) ⟨rfl, rfl, rfl⟩
set_option maxHeartbeats 4000000 in
set_option maxRecDepth 100000 in
theorem t_xTerms_withParts {l : Launch} {D : va_G} {G : Nat → ClassId} {d : Nat} (hdp : 3 ≤ d) {c r : jS} {a1 : Int32} {a2 : Int32} {a3 : Int32} {a4 : Int32} {a5 : Int32} {vE : Int32} {cE : jS} (h : xTerms_withParts c a1 a2 a3 a4 a5 = some (vE, cE)) : jC l D G d M_xTerms_withParts [.ref 5, .int a1, .int a2, .int a3, .int a4, .int a5] (jmix c r) (some (.int vE)) (jmix cE r) := by
  refine jM_of rfl (Nat.le_of_ble_eq_true rfl) ?_
  intro X hl hD hG _ _ hX hE _
  subst hl hD hG
  unfold xTerms_withParts at h
  show J X 0 0 jN (jE (jmix c r)) [(0, .ref 5), (1, .int a1), (2, .int a2), (3, .int a3), (4, .int a4), (5, .int a5)] [] 0
  refine j_iload_n (pc := 0) hX dX6_withParts_0 rfl rfl ?_
  refine j_aload_n (pc := 1) hX dX6_withParts_1 rfl rfl ?_
  refine j_iload_n (pc := 2) hX dX6_withParts_2 rfl rfl ?_
  obtain ⟨r1, h1, h⟩ := ob_some h
  refine k_callVI (pc := 3) (st := [.int a2]) hX ln_6_71 dX6_withParts_3 (t_xTerms_letterOf (d := 1) (Nat.le_refl _) h1) rfl rfl rfl (by omega) (Nat.le_of_ble_eq_true rfl) ?_
  refine j_icmp_ne (pc := 6) (tgt := 40) hX dX6_withParts_6 (by decide) (fun z => ?_) (fun z => ?_)
  · replace h := ite_f z h
    refine j_sub (lv' := [(0, .ref 5), (1, .int a1), (2, .int a2), (3, .int a3), (4, .int a4), (5, .int a5)]) ⟨rfl, rfl, rfl, rfl, rfl, rfl, trivial⟩ ?_
    exact tj_xTerms_withParts_P40 hX hdp hE _ _ _ _ _ _ h
  · replace h := ite_t z h
    refine j_iload_n (pc := 9) hX dX6_withParts_9 rfl rfl ?_
    refine j_aload_n (pc := 10) hX dX6_withParts_10 rfl rfl ?_
    refine j_iload_n (pc := 11) hX dX6_withParts_11 rfl rfl ?_
    obtain ⟨r6, h1, h⟩ := ob_some h
    refine k_callVI (pc := 12) (st := [.int a3]) hX ln_6_74 dX6_withParts_12 (t_xTerms_firstOf (d := 1) (Nat.le_refl _) h1) rfl rfl rfl (by omega) (Nat.le_of_ble_eq_true rfl) ?_
    refine j_icmp_ne (pc := 15) (tgt := 40) hX dX6_withParts_15 (by decide) (fun z => ?_) (fun z => ?_)
    · replace h := ite_f z h
      refine j_sub (lv' := [(0, .ref 5), (1, .int a1), (2, .int a2), (3, .int a3), (4, .int a4), (5, .int a5)]) ⟨rfl, rfl, rfl, rfl, rfl, rfl, trivial⟩ ?_
      exact tj_xTerms_withParts_P40 hX hdp hE _ _ _ _ _ _ h
    · replace h := ite_t z h
      refine j_iload (pc := 18) hX dX6_withParts_18 rfl ?_
      refine j_aload_n (pc := 20) hX dX6_withParts_20 rfl rfl ?_
      refine j_iload_n (pc := 21) hX dX6_withParts_21 rfl rfl ?_
      obtain ⟨r7, h1, h⟩ := ob_some h
      refine k_callVI (pc := 22) (st := [.int a4]) hX ln_6_81 dX6_withParts_22 (t_xTerms_secondOf (d := 1) (Nat.le_refl _) h1) rfl rfl rfl (by omega) (Nat.le_of_ble_eq_true rfl) ?_
      refine j_icmp_ne (pc := 25) (tgt := 40) hX dX6_withParts_25 (by decide) (fun z => ?_) (fun z => ?_)
      · replace h := ite_f z h
        refine j_sub (lv' := [(0, .ref 5), (1, .int a1), (2, .int a2), (3, .int a3), (4, .int a4), (5, .int a5)]) ⟨rfl, rfl, rfl, rfl, rfl, rfl, trivial⟩ ?_
        exact tj_xTerms_withParts_P40 hX hdp hE _ _ _ _ _ _ h
      · replace h := ite_t z h
        refine j_iload (pc := 28) hX dX6_withParts_28 rfl ?_
        refine j_aload_n (pc := 30) hX dX6_withParts_30 rfl rfl ?_
        refine j_iload_n (pc := 31) hX dX6_withParts_31 rfl rfl ?_
        obtain ⟨r8, h1, h⟩ := ob_some h
        refine k_callVI (pc := 32) (st := [.int a5]) hX ln_6_84 dX6_withParts_32 (t_xTerms_thirdOf (d := 1) (Nat.le_refl _) h1) rfl rfl rfl (by omega) (Nat.le_of_ble_eq_true rfl) ?_
        refine j_icmp_ne (pc := 35) (tgt := 40) hX dX6_withParts_35 (by decide) (fun z => ?_) (fun z => ?_)
        · replace h := ite_f z h
          refine j_sub (lv' := [(0, .ref 5), (1, .int a1), (2, .int a2), (3, .int a3), (4, .int a4), (5, .int a5)]) ⟨rfl, rfl, rfl, rfl, rfl, rfl, trivial⟩ ?_
          exact tj_xTerms_withParts_P40 hX hdp hE _ _ _ _ _ _ h
        · replace h := ite_t z h
          refine j_iload_n (pc := 38) hX dX6_withParts_38 rfl rfl ?_
          obtain ⟨h, h0⟩ := Prod.mk.inj (Option.some.inj h)
          subst h h0
          exact j_iret (pc := 39) hX hE rfl rfl dX6_withParts_39 (Nat.le_refl 0) (Nat.le_refl 0) ⟨rfl, rfl, rfl⟩

