set_option maxHeartbeats 4000000 in
set_option maxRecDepth 100000 in
theorem tl_xReader_addBytes_L33 {X : jX} {d : Nat} {r : jS} {vE : Int32} {cE : jS} (hX : jOk X RX4 cX4_addBytes 5 d) (hdp : 1 ≤ d) (hE : jEnd X (some .int) 0 0 (fun r0 n0 h0 => r0 = (some (.int vE)) ∧ n0 = jN ∧ h0 = jE (jmix cE r))) : ∀ (v1 : Int64) (v4 : Int32) (c : jS), xReader_addBytes_L33 v1 v4 c = some (vE, cE) → J X 0 0 jN (jE (jmix c r)) [(0, .ref 28), (1, .long v1), (4, .int v4)] [] 33 := by
  intro v1 v4 c h
  unfold xReader_addBytes_L33 at h
  replace h := lp_some h
  obtain ⟨k_33, h⟩ := h
  induction k_33 generalizing v1 v4 c with
  | zero => cases h
  | succ k_33 ih_33 =>
    replace h : lq (fun s : (Int64 × Int32 × jS) => xReader_addBytes_S33 s.1 s.2.1 s.2.2) k_33 (vE, cE) (xReader_addBytes_S33 v1 v4 c) := lpk_succ (s := (v1, v4, c)) h
    conv at h => arg 4; unfold xReader_addBytes_S33
    refine j_iload (pc := 33) hX dX4_addBytes_33 rfl ?_
    refine j_if_lt (pc := 35) (tgt := 56) hX dX4_addBytes_35 (by decide) (fun z => ?_) (fun z => ?_)
    · replace h := lq_t z h
      refine j_aload_n (pc := 56) hX dX4_addBytes_56 rfl rfl ?_
      refine k_getI (pc := 57) (x := (c 28 3)) hX fl_4_23 dX4_addBytes_57 rfl rfl rfl ?_
      replace h := lq_r h
      obtain ⟨h, h0⟩ := Prod.mk.inj (Option.some.inj h)
      subst h h0
      exact j_iret (pc := 60) hX hE rfl rfl dX4_addBytes_60 (Nat.le_refl 0) (Nat.le_refl 0) ⟨rfl, rfl, rfl⟩
    · replace h := lq_f z h
      refine j_aload_n (pc := 38) hX dX4_addBytes_38 rfl rfl ?_
      refine j_lload_n (pc := 39) hX dX4_addBytes_39 rfl rfl ?_
      refine j_bipush (pc := 40) (v := (8 : Int32)) hX dX4_addBytes_40 (by decide) ?_
      refine j_iload (pc := 42) hX dX4_addBytes_42 rfl ?_
      refine j_imul (pc := 44) hX dX4_addBytes_44 ?_
      refine j_lushr (pc := 45) hX dX4_addBytes_45 ?_
      refine j_l2i (pc := 46) hX dX4_addBytes_46 ?_
      obtain ⟨_u, c1, h1, h⟩ := lq_bd h
      refine k_callVV (pc := 47) (st := []) hX ln_4_30 dX4_addBytes_47 (t_xReader_add (d := 0) (Nat.le_refl _) h1) rfl rfl rfl (by omega) (Nat.le_of_ble_eq_true rfl) ?_
      refine j_iinc (pc := 50) hX dX4_addBytes_50 rfl (v := (v4 - (1 : Int32))) (iinc_m1 _) (by decide) (by decide) ?_
      refine j_goto (pc := 53) (tgt := 33) hX dX4_addBytes_53 (by decide) ?_
      refine j_sub (lv' := [(0, .ref 28), (1, .long v1), (4, .int (v4 - (1 : Int32)))]) ⟨rfl, rfl, rfl, trivial⟩ ?_
      exact ih_33 _ _ _ (lq_l h)
set_option maxHeartbeats 4000000 in
set_option maxRecDepth 100000 in
theorem t_xReader_addBytes {l : Launch} {D : va_G} {G : Nat → ClassId} {d : Nat} (hdp : 1 ≤ d) {c r : jS} {a1 : Int64} {a3 : Int32} {vE : Int32} {cE : jS} (h : xReader_addBytes c a1 a3 = some (vE, cE)) : jC l D G d M_xReader_addBytes [.ref 28, .long a1, .int a3] (jmix c r) (some (.int vE)) (jmix cE r) := by
  refine jM_of rfl (Nat.le_of_ble_eq_true rfl) ?_
  intro X hl hD hG _ _ hX hE _
  subst hl hD hG
  unfold xReader_addBytes at h
  show J X 0 0 jN (jE (jmix c r)) [(0, .ref 28), (1, .long a1), (3, .int a3)] [] 0
  refine j_iload_n (pc := 0) hX dX4_addBytes_0 rfl rfl ?_
  refine j_iconst (pc := 1) (v := (1 : Int32)) hX dX4_addBytes_1 (by decide) ?_
  refine j_icmp_lt (pc := 2) (tgt := 11) hX dX4_addBytes_2 (by decide) (fun z => ?_) (fun z => ?_)
  · replace h := ite_t z h
    refine j_iconst (pc := 11) (v := (-1 : Int32)) hX dX4_addBytes_11 (by decide) ?_
    obtain ⟨h, h0⟩ := Prod.mk.inj (Option.some.inj h)
    subst h h0
    exact j_iret (pc := 12) hX hE rfl rfl dX4_addBytes_12 (Nat.le_refl 0) (Nat.le_refl 0) ⟨rfl, rfl, rfl⟩
  · replace h := ite_f z h
    refine j_iload_n (pc := 5) hX dX4_addBytes_5 rfl rfl ?_
    refine j_bipush (pc := 6) (v := (8 : Int32)) hX dX4_addBytes_6 (by decide) ?_
    refine j_icmp_le (pc := 8) (tgt := 13) hX dX4_addBytes_8 (by decide) (fun z => ?_) (fun z => ?_)
    · replace h := ite_t z h
      refine j_aload_n (pc := 13) hX dX4_addBytes_13 rfl rfl ?_
      refine k_getI (pc := 14) (x := (c 28 3)) hX fl_4_23 dX4_addBytes_14 rfl rfl rfl ?_
      refine j_iload_n (pc := 17) hX dX4_addBytes_17 rfl rfl ?_
      refine j_iadd (pc := 18) hX dX4_addBytes_18 ?_
      refine j_sipush (pc := 19) (v := (600 : Int32)) hX dX4_addBytes_19 (by decide) ?_
      refine j_icmp_le (pc := 22) (tgt := 28) hX dX4_addBytes_22 (by decide) (fun z => ?_) (fun z => ?_)
      · replace h := ite_t z h
        refine j_iload_n (pc := 28) hX dX4_addBytes_28 rfl rfl ?_
        refine j_iconst (pc := 29) (v := (1 : Int32)) hX dX4_addBytes_29 (by decide) ?_
        refine j_isub (pc := 30) hX dX4_addBytes_30 ?_
        refine j_istore (pc := 31) hX dX4_addBytes_31 (by decide) (by decide) ?_
        refine j_sub (lv' := [(0, .ref 28), (1, .long a1), (4, .int (a3 - (1 : Int32)))]) ⟨rfl, rfl, rfl, trivial⟩ ?_
        exact tl_xReader_addBytes_L33 hX hdp hE _ _ _ h
      · replace h := ite_f z h
        refine j_bipush (pc := 25) (v := (-3 : Int32)) hX dX4_addBytes_25 (by decide) ?_
        obtain ⟨h, h0⟩ := Prod.mk.inj (Option.some.inj h)
        subst h h0
        exact j_iret (pc := 27) hX hE rfl rfl dX4_addBytes_27 (Nat.le_refl 0) (Nat.le_refl 0) ⟨rfl, rfl, rfl⟩
    · replace h := ite_f z h
      refine j_iconst (pc := 11) (v := (-1 : Int32)) hX dX4_addBytes_11 (by decide) ?_
      obtain ⟨h, h0⟩ := Prod.mk.inj (Option.some.inj h)
      subst h h0
      exact j_iret (pc := 12) hX hE rfl rfl dX4_addBytes_12 (Nat.le_refl 0) (Nat.le_refl 0) ⟨rfl, rfl, rfl⟩

set_option maxHeartbeats 4000000 in
set_option maxRecDepth 100000 in
theorem tl_xReader_takeFrom_L22 {X : jX} {d : Nat} {r : jS} {vE : Int32} {cE : jS} (hX : jOk X RX4 cX4_takeFrom 4 d) (hdp : 1 ≤ d) (hE : jEnd X (some .int) 0 0 (fun r0 n0 h0 => r0 = (some (.int vE)) ∧ n0 = jN ∧ h0 = jE (jmix cE r))) : ∀ (v2 : Int32) (v3 : Int32) (c : jS), xReader_takeFrom_L22 v2 v3 c = some (vE, cE) → J X 0 0 jN (jE (jmix c r)) [(0, .ref 28), (1, .ref 26), (2, .int v2), (3, .int v3)] [] 22 := by
  intro v2 v3 c h
  unfold xReader_takeFrom_L22 at h
  replace h := lp_some h
  obtain ⟨k_22, h⟩ := h
  induction k_22 generalizing v2 v3 c with
  | zero => cases h
  | succ k_22 ih_22 =>
    replace h : lq (fun s : (Int32 × Int32 × jS) => xReader_takeFrom_S22 s.1 s.2.1 s.2.2) k_22 (vE, cE) (xReader_takeFrom_S22 v2 v3 c) := lpk_succ (s := (v2, v3, c)) h
    conv at h => arg 4; unfold xReader_takeFrom_S22
    refine j_iload_n (pc := 22) hX dX4_takeFrom_22 rfl rfl ?_
    refine j_iload_n (pc := 23) hX dX4_takeFrom_23 rfl rfl ?_
    refine j_icmp_ge (pc := 24) (tgt := 42) hX dX4_takeFrom_24 (by decide) (fun z => ?_) (fun z => ?_)
    · replace h := lq_t z h
      refine j_aload_n (pc := 42) hX dX4_takeFrom_42 rfl rfl ?_
      refine k_getI (pc := 43) (x := (c 28 3)) hX fl_4_23 dX4_takeFrom_43 rfl rfl rfl ?_
      replace h := lq_r h
      obtain ⟨h, h0⟩ := Prod.mk.inj (Option.some.inj h)
      subst h h0
      exact j_iret (pc := 46) hX hE rfl rfl dX4_takeFrom_46 (Nat.le_refl 0) (Nat.le_refl 0) ⟨rfl, rfl, rfl⟩
    · replace h := lq_f z h
      refine j_aload_n (pc := 27) hX dX4_takeFrom_27 rfl rfl ?_
      refine j_aload_n (pc := 28) hX dX4_takeFrom_28 rfl rfl ?_
      refine j_iload_n (pc := 29) hX dX4_takeFrom_29 rfl rfl ?_
      obtain ⟨r3, h1, h⟩ := lq_ob h
      refine k_callVI (pc := 30) (st := [.ref 28]) hX ln_4_40 dX4_takeFrom_30 (t_xPrinter_byteAt (d := 0) (Nat.le_refl _) h1) rfl rfl rfl (by omega) (Nat.le_of_ble_eq_true rfl) ?_
      obtain ⟨_u, c4, h1, h⟩ := lq_bd h
      refine k_callVV (pc := 33) (st := []) hX ln_4_30 dX4_takeFrom_33 (t_xReader_add (d := 0) (Nat.le_refl _) h1) rfl rfl rfl (by omega) (Nat.le_of_ble_eq_true rfl) ?_
      refine j_iinc (pc := 36) hX dX4_takeFrom_36 rfl (v := (v3 + (1 : Int32))) rfl (by decide) (by decide) ?_
      refine j_goto (pc := 39) (tgt := 22) hX dX4_takeFrom_39 (by decide) ?_
      refine j_sub (lv' := [(0, .ref 28), (1, .ref 26), (2, .int v2), (3, .int (v3 + (1 : Int32)))]) ⟨rfl, rfl, rfl, rfl, trivial⟩ ?_
      exact ih_22 _ _ _ (lq_l h)
set_option maxHeartbeats 4000000 in
set_option maxRecDepth 100000 in
theorem t_xReader_takeFrom {l : Launch} {D : va_G} {G : Nat → ClassId} {d : Nat} (hdp : 1 ≤ d) {c r : jS} {vE : Int32} {cE : jS} (h : xReader_takeFrom c = some (vE, cE)) : jC l D G d M_xReader_takeFrom [.ref 28, .ref 26] (jmix c r) (some (.int vE)) (jmix cE r) := by
  refine jM_of rfl (Nat.le_of_ble_eq_true rfl) ?_
  intro X hl hD hG _ _ hX hE _
  subst hl hD hG
  unfold xReader_takeFrom at h
  show J X 0 0 jN (jE (jmix c r)) [(0, .ref 28), (1, .ref 26)] [] 0
  refine j_aload_n (pc := 0) hX dX4_takeFrom_0 rfl rfl ?_
  obtain ⟨r1, h1, h⟩ := ob_some h
  refine k_callVI (pc := 1) (st := []) hX ln_4_34 dX4_takeFrom_1 (t_xPrinter_printLength (d := 0) (Nat.le_refl _) h1) rfl rfl rfl (by omega) (Nat.le_of_ble_eq_true rfl) ?_
  refine j_istore_n (pc := 4) hX dX4_takeFrom_4 rfl (by decide) (by decide) ?_
  refine j_iload_n (pc := 5) hX dX4_takeFrom_5 rfl rfl ?_
  refine j_sipush (pc := 6) (v := (600 : Int32)) hX dX4_takeFrom_6 (by decide) ?_
  refine j_icmp_le (pc := 9) (tgt := 15) hX dX4_takeFrom_9 (by decide) (fun z => ?_) (fun z => ?_)
  · replace h := ite_t z h
    refine j_aload_n (pc := 15) hX dX4_takeFrom_15 rfl rfl ?_
    refine j_iconst (pc := 16) (v := (0 : Int32)) hX dX4_takeFrom_16 (by decide) ?_
    obtain ⟨c2, hc, h⟩ := lt_some h
    refine k_putI (pc := 17) (c' := jmix c2 r) hX pfl_4_23 dX4_takeFrom_17 rfl rfl (fun _ => ⟨rfl, rfl⟩) (jmix_xe rfl hc) ?_
    refine j_iconst (pc := 20) (v := (0 : Int32)) hX dX4_takeFrom_20 (by decide) ?_
    refine j_istore_n (pc := 21) hX dX4_takeFrom_21 rfl (by decide) (by decide) ?_
    refine j_sub (lv' := [(0, .ref 28), (1, .ref 26), (2, .int r1), (3, .int (0 : Int32))]) ⟨rfl, rfl, rfl, rfl, trivial⟩ ?_
    exact tl_xReader_takeFrom_L22 hX hdp hE _ _ _ h
  · replace h := ite_f z h
    refine j_bipush (pc := 12) (v := (-3 : Int32)) hX dX4_takeFrom_12 (by decide) ?_
    obtain ⟨h, h0⟩ := Prod.mk.inj (Option.some.inj h)
    subst h h0
    exact j_iret (pc := 14) hX hE rfl rfl dX4_takeFrom_14 (Nat.le_refl 0) (Nat.le_refl 0) ⟨rfl, rfl, rfl⟩

set_option maxHeartbeats 4000000 in
set_option maxRecDepth 100000 in
theorem t_xTerms_total {l : Launch} {D : va_G} {G : Nat → ClassId} {d : Nat} (hdp : 0 ≤ d) {c r : jS} {vE : Int32} (h : xTerms_total c = some vE) : jC l D G d M_xTerms_total [.ref 5] (jmix c r) (some (.int vE)) (jmix c r) := by
  refine jM_of rfl (Nat.le_of_ble_eq_true rfl) ?_
  intro X hl hD hG _ _ hX hE _
  subst hl hD hG
  unfold xTerms_total at h
  show J X 0 0 jN (jE (jmix c r)) [(0, .ref 5)] [] 0
  refine j_aload_n (pc := 0) hX dX6_total_0 rfl rfl ?_
  refine k_getI (pc := 1) (x := (c 5 12)) hX fl_6_49 dX6_total_1 rfl rfl rfl ?_
  replace h := Option.some.inj h
  subst h
  exact j_iret (pc := 4) hX hE rfl rfl dX6_total_4 (Nat.le_refl 0) (Nat.le_refl 0) ⟨rfl, rfl, rfl⟩

set_option maxHeartbeats 4000000 in
set_option maxRecDepth 100000 in
theorem t_xTypes_total {l : Launch} {D : va_G} {G : Nat → ClassId} {d : Nat} (hdp : 0 ≤ d) {c r : jS} {vE : Int32} (h : xTypes_total c = some vE) : jC l D G d M_xTypes_total [.ref 1] (jmix c r) (some (.int vE)) (jmix c r) := by
  refine jM_of rfl (Nat.le_of_ble_eq_true rfl) ?_
  intro X hl hD hG _ _ hX hE _
  subst hl hD hG
  unfold xTypes_total at h
  show J X 0 0 jN (jE (jmix c r)) [(0, .ref 1)] [] 0
  refine j_aload_n (pc := 0) hX dX7_total_0 rfl rfl ?_
  refine k_getI (pc := 1) (x := (c 1 3)) hX fl_7_21 dX7_total_1 rfl rfl rfl ?_
  replace h := Option.some.inj h
  subst h
  exact j_iret (pc := 4) hX hE rfl rfl dX7_total_4 (Nat.le_refl 0) (Nat.le_refl 0) ⟨rfl, rfl, rfl⟩

set_option maxHeartbeats 4000000 in
set_option maxRecDepth 100000 in
theorem t_xReader_byteHere {l : Launch} {D : va_G} {G : Nat → ClassId} {d : Nat} (hdp : 0 ≤ d) {c r : jS} {vE : Int32} (h : xReader_byteHere c = some vE) : jC l D G d M_xReader_byteHere [.ref 28] (jmix c r) (some (.int vE)) (jmix c r) := by
  refine jM_of rfl (Nat.le_of_ble_eq_true rfl) ?_
  intro X hl hD hG _ _ hX hE _
  subst hl hD hG
  unfold xReader_byteHere at h
  show J X 0 0 jN (jE (jmix c r)) [(0, .ref 28)] [] 0
  refine j_aload_n (pc := 0) hX dX4_byteHere_0 rfl rfl ?_
  refine k_getI (pc := 1) (x := (c 28 4)) hX fl_4_27 dX4_byteHere_1 rfl rfl rfl ?_
  refine j_if_lt (pc := 4) (tgt := 44) hX dX4_byteHere_4 (by decide) (fun z => ?_) (fun z => ?_)
  · replace h := ite_t z h
    refine j_bipush (pc := 44) (v := (-2 : Int32)) hX dX4_byteHere_44 (by decide) ?_
    replace h := Option.some.inj h
    subst h
    exact j_iret (pc := 46) hX hE rfl rfl dX4_byteHere_46 (Nat.le_refl 0) (Nat.le_refl 0) ⟨rfl, rfl, rfl⟩
  · replace h := ite_f z h
    refine j_aload_n (pc := 7) hX dX4_byteHere_7 rfl rfl ?_
    refine k_getI (pc := 8) (x := (c 28 4)) hX fl_4_27 dX4_byteHere_8 rfl rfl rfl ?_
    refine j_aload_n (pc := 11) hX dX4_byteHere_11 rfl rfl ?_
    refine k_getI (pc := 12) (x := (c 28 3)) hX fl_4_23 dX4_byteHere_12 rfl rfl rfl ?_
    refine j_icmp_ge (pc := 15) (tgt := 44) hX dX4_byteHere_15 (by decide) (fun z => ?_) (fun z => ?_)
    · replace h := ite_t z h
      refine j_bipush (pc := 44) (v := (-2 : Int32)) hX dX4_byteHere_44 (by decide) ?_
      replace h := Option.some.inj h
      subst h
      exact j_iret (pc := 46) hX hE rfl rfl dX4_byteHere_46 (Nat.le_refl 0) (Nat.le_refl 0) ⟨rfl, rfl, rfl⟩
    · replace h := ite_f z h
      refine j_aload_n (pc := 18) hX dX4_byteHere_18 rfl rfl ?_
      refine k_getI (pc := 19) (x := (c 28 4)) hX fl_4_27 dX4_byteHere_19 rfl rfl rfl ?_
      refine j_sipush (pc := 22) (v := (600 : Int32)) hX dX4_byteHere_22 (by decide) ?_
      refine j_icmp_ge (pc := 25) (tgt := 44) hX dX4_byteHere_25 (by decide) (fun z => ?_) (fun z => ?_)
      · replace h := ite_t z h
        refine j_bipush (pc := 44) (v := (-2 : Int32)) hX dX4_byteHere_44 (by decide) ?_
        replace h := Option.some.inj h
        subst h
        exact j_iret (pc := 46) hX hE rfl rfl dX4_byteHere_46 (Nat.le_refl 0) (Nat.le_refl 0) ⟨rfl, rfl, rfl⟩
      · replace h := ite_f z h
        refine j_aload_n (pc := 28) hX dX4_byteHere_28 rfl rfl ?_
        refine k_getR (pc := 29) (q := 29) hX fl_4_9 dX4_byteHere_29 rfl rfl ?_
        refine j_aload_n (pc := 32) hX dX4_byteHere_32 rfl rfl ?_
        refine k_getI (pc := 33) (x := (c 28 4)) hX fl_4_27 dX4_byteHere_33 rfl rfl rfl ?_
        obtain ⟨hg, h⟩ := gd_some h
        refine k_bald (pc := 36) (x := (c 29 ((c 28 4)).toNatClampNeg)) hX dX4_byteHere_36 rfl hg rfl ?_
        refine j_sipush (pc := 37) (v := (255 : Int32)) hX dX4_byteHere_37 (by decide) ?_
        refine j_iand (pc := 40) hX dX4_byteHere_40 ?_
        refine j_goto (pc := 41) (tgt := 46) hX dX4_byteHere_41 (by decide) ?_
        replace h := Option.some.inj h
        subst h
        exact j_iret (pc := 46) hX hE rfl rfl dX4_byteHere_46 (Nat.le_refl 0) (Nat.le_refl 0) ⟨rfl, rfl, rfl⟩

set_option maxHeartbeats 4000000 in
set_option maxRecDepth 100000 in
theorem t_xReader_isDigit {l : Launch} {D : va_G} {G : Nat → ClassId} {d : Nat} (hdp : 0 ≤ d) {c r : jS} {a0 : Int32} {vE : Int32} (h : xReader_isDigit c a0 = some vE) : jC l D G d M_xReader_isDigit [.int a0] (jmix c r) (some (.int vE)) (jmix c r) := by
  refine jM_of rfl (Nat.le_of_ble_eq_true rfl) ?_
  intro X hl hD hG _ _ hX hE _
  subst hl hD hG
  unfold xReader_isDigit at h
  show J X 0 0 jN (jE (jmix c r)) [(0, .int a0)] [] 0
  refine j_iload_n (pc := 0) hX dX4_isDigit_0 rfl rfl ?_
  refine j_bipush (pc := 1) (v := (48 : Int32)) hX dX4_isDigit_1 (by decide) ?_
  refine j_icmp_lt (pc := 3) (tgt := 16) hX dX4_isDigit_3 (by decide) (fun z => ?_) (fun z => ?_)
  · replace h := ite_t z h
    refine j_iconst (pc := 16) (v := (0 : Int32)) hX dX4_isDigit_16 (by decide) ?_
    replace h := Option.some.inj h
    subst h
    exact j_iret (pc := 17) hX hE rfl rfl dX4_isDigit_17 (Nat.le_refl 0) (Nat.le_refl 0) ⟨rfl, rfl, rfl⟩
  · replace h := ite_f z h
    refine j_iload_n (pc := 6) hX dX4_isDigit_6 rfl rfl ?_
    refine j_bipush (pc := 7) (v := (57 : Int32)) hX dX4_isDigit_7 (by decide) ?_
    refine j_icmp_gt (pc := 9) (tgt := 16) hX dX4_isDigit_9 (by decide) (fun z => ?_) (fun z => ?_)
    · replace h := ite_t z h
      refine j_iconst (pc := 16) (v := (0 : Int32)) hX dX4_isDigit_16 (by decide) ?_
      replace h := Option.some.inj h
      subst h
      exact j_iret (pc := 17) hX hE rfl rfl dX4_isDigit_17 (Nat.le_refl 0) (Nat.le_refl 0) ⟨rfl, rfl, rfl⟩
    · replace h := ite_f z h
      refine j_iconst (pc := 12) (v := (1 : Int32)) hX dX4_isDigit_12 (by decide) ?_
      refine j_goto (pc := 13) (tgt := 17) hX dX4_isDigit_13 (by decide) ?_
      replace h := Option.some.inj h
      subst h
      exact j_iret (pc := 17) hX hE rfl rfl dX4_isDigit_17 (Nat.le_refl 0) (Nat.le_refl 0) ⟨rfl, rfl, rfl⟩

set_option maxHeartbeats 4000000 in
set_option maxRecDepth 100000 in
theorem t_xReader_beginsTerm {l : Launch} {D : va_G} {G : Nat → ClassId} {d : Nat} (hdp : 1 ≤ d) {c r : jS} {a0 : Int32} {vE : Int32} (h : xReader_beginsTerm c a0 = some vE) : jC l D G d M_xReader_beginsTerm [.int a0] (jmix c r) (some (.int vE)) (jmix c r) := by
  refine jM_of rfl (Nat.le_of_ble_eq_true rfl) ?_
  intro X hl hD hG _ _ hX hE _
  subst hl hD hG
  unfold xReader_beginsTerm at h
  show J X 0 0 jN (jE (jmix c r)) [(0, .int a0)] [] 0
  refine j_iload_n (pc := 0) hX dX4_beginsTerm_0 rfl rfl ?_
  obtain ⟨r1, h1, h⟩ := ob_some h
  refine k_callSI (pc := 1) (st := []) hX ln_4_93 dX4_beginsTerm_1 (t_xReader_isDigit (d := 0) (Nat.le_refl _) h1) rfl rfl (by omega) (Nat.le_of_ble_eq_true rfl) ?_
  refine j_if_ne (pc := 4) (tgt := 47) hX dX4_beginsTerm_4 (by decide) (fun z => ?_) (fun z => ?_)
  · replace h := ite_f z h
    refine j_iconst (pc := 47) (v := (1 : Int32)) hX dX4_beginsTerm_47 (by decide) ?_
    refine j_goto (pc := 48) (tgt := 52) hX dX4_beginsTerm_48 (by decide) ?_
    replace h := Option.some.inj h
    subst h
    exact j_iret (pc := 52) hX hE rfl rfl dX4_beginsTerm_52 (Nat.le_refl 0) (Nat.le_refl 0) ⟨rfl, rfl, rfl⟩
  · replace h := ite_t z h
    refine j_iload_n (pc := 7) hX dX4_beginsTerm_7 rfl rfl ?_
    refine j_bipush (pc := 8) (v := (97 : Int32)) hX dX4_beginsTerm_8 (by decide) ?_
    refine j_isub (pc := 10) hX dX4_beginsTerm_10 ?_
    obtain ⟨r2, h1, h⟩ := ob_some h
    refine k_callNI (pc := 11) (st := []) hX ln_4_81 dX4_beginsTerm_11 (t_xc_isLetter (d := 0) (Nat.le_refl _) h1) rfl rfl (by omega) (Nat.le_of_ble_eq_true rfl) ?_
    refine j_if_ne (pc := 14) (tgt := 47) hX dX4_beginsTerm_14 (by decide) (fun z => ?_) (fun z => ?_)
    · replace h := ite_f z h
      refine j_iconst (pc := 47) (v := (1 : Int32)) hX dX4_beginsTerm_47 (by decide) ?_
      refine j_goto (pc := 48) (tgt := 52) hX dX4_beginsTerm_48 (by decide) ?_
      replace h := Option.some.inj h
      subst h
      exact j_iret (pc := 52) hX hE rfl rfl dX4_beginsTerm_52 (Nat.le_refl 0) (Nat.le_refl 0) ⟨rfl, rfl, rfl⟩
    · replace h := ite_t z h
      refine j_iload_n (pc := 17) hX dX4_beginsTerm_17 rfl rfl ?_
      refine j_bipush (pc := 18) (v := (45 : Int32)) hX dX4_beginsTerm_18 (by decide) ?_
      refine j_icmp_eq (pc := 20) (tgt := 47) hX dX4_beginsTerm_20 (by decide) (fun z => ?_) (fun z => ?_)
      · replace h := ite_t z h
        refine j_iconst (pc := 47) (v := (1 : Int32)) hX dX4_beginsTerm_47 (by decide) ?_
        refine j_goto (pc := 48) (tgt := 52) hX dX4_beginsTerm_48 (by decide) ?_
        replace h := Option.some.inj h
        subst h
        exact j_iret (pc := 52) hX hE rfl rfl dX4_beginsTerm_52 (Nat.le_refl 0) (Nat.le_refl 0) ⟨rfl, rfl, rfl⟩
      · replace h := ite_f z h
        refine j_iload_n (pc := 23) hX dX4_beginsTerm_23 rfl rfl ?_
        refine j_bipush (pc := 24) (v := (92 : Int32)) hX dX4_beginsTerm_24 (by decide) ?_
        refine j_icmp_eq (pc := 26) (tgt := 47) hX dX4_beginsTerm_26 (by decide) (fun z => ?_) (fun z => ?_)
        · replace h := ite_t z h
          refine j_iconst (pc := 47) (v := (1 : Int32)) hX dX4_beginsTerm_47 (by decide) ?_
          refine j_goto (pc := 48) (tgt := 52) hX dX4_beginsTerm_48 (by decide) ?_
          replace h := Option.some.inj h
          subst h
          exact j_iret (pc := 52) hX hE rfl rfl dX4_beginsTerm_52 (Nat.le_refl 0) (Nat.le_refl 0) ⟨rfl, rfl, rfl⟩
        · replace h := ite_f z h
          refine j_iload_n (pc := 29) hX dX4_beginsTerm_29 rfl rfl ?_
          refine j_bipush (pc := 30) (v := (40 : Int32)) hX dX4_beginsTerm_30 (by decide) ?_
          refine j_icmp_eq (pc := 32) (tgt := 47) hX dX4_beginsTerm_32 (by decide) (fun z => ?_) (fun z => ?_)
          · replace h := ite_t z h
            refine j_iconst (pc := 47) (v := (1 : Int32)) hX dX4_beginsTerm_47 (by decide) ?_
            refine j_goto (pc := 48) (tgt := 52) hX dX4_beginsTerm_48 (by decide) ?_
            replace h := Option.some.inj h
            subst h
            exact j_iret (pc := 52) hX hE rfl rfl dX4_beginsTerm_52 (Nat.le_refl 0) (Nat.le_refl 0) ⟨rfl, rfl, rfl⟩
          · replace h := ite_f z h
            refine j_iload_n (pc := 35) hX dX4_beginsTerm_35 rfl rfl ?_
            refine j_bipush (pc := 36) (v := (91 : Int32)) hX dX4_beginsTerm_36 (by decide) ?_
            refine j_icmp_eq (pc := 38) (tgt := 47) hX dX4_beginsTerm_38 (by decide) (fun z => ?_) (fun z => ?_)
            · replace h := ite_t z h
              refine j_iconst (pc := 47) (v := (1 : Int32)) hX dX4_beginsTerm_47 (by decide) ?_
              refine j_goto (pc := 48) (tgt := 52) hX dX4_beginsTerm_48 (by decide) ?_
              replace h := Option.some.inj h
              subst h
              exact j_iret (pc := 52) hX hE rfl rfl dX4_beginsTerm_52 (Nat.le_refl 0) (Nat.le_refl 0) ⟨rfl, rfl, rfl⟩
            · replace h := ite_f z h
              refine j_iload_n (pc := 41) hX dX4_beginsTerm_41 rfl rfl ?_
              refine j_bipush (pc := 42) (v := (123 : Int32)) hX dX4_beginsTerm_42 (by decide) ?_
              refine j_icmp_ne (pc := 44) (tgt := 51) hX dX4_beginsTerm_44 (by decide) (fun z => ?_) (fun z => ?_)
              · replace h := ite_f z h
                refine j_iconst (pc := 51) (v := (0 : Int32)) hX dX4_beginsTerm_51 (by decide) ?_
                replace h := Option.some.inj h
                subst h
                exact j_iret (pc := 52) hX hE rfl rfl dX4_beginsTerm_52 (Nat.le_refl 0) (Nat.le_refl 0) ⟨rfl, rfl, rfl⟩
              · replace h := ite_t z h
                refine j_iconst (pc := 47) (v := (1 : Int32)) hX dX4_beginsTerm_47 (by decide) ?_
                refine j_goto (pc := 48) (tgt := 52) hX dX4_beginsTerm_48 (by decide) ?_
                replace h := Option.some.inj h
                subst h
                exact j_iret (pc := 52) hX hE rfl rfl dX4_beginsTerm_52 (Nat.le_refl 0) (Nat.le_refl 0) ⟨rfl, rfl, rfl⟩

set_option maxHeartbeats 4000000 in
set_option maxRecDepth 100000 in
theorem t_xReader_wrongHere {l : Launch} {D : va_G} {G : Nat → ClassId} {d : Nat} (hdp : 0 ≤ d) {c r : jS} {vE : Int32} (h : xReader_wrongHere c = some vE) : jC l D G d M_xReader_wrongHere [.ref 28] (jmix c r) (some (.int vE)) (jmix c r) := by
  refine jM_of rfl (Nat.le_of_ble_eq_true rfl) ?_
  intro X hl hD hG _ _ hX hE _
  subst hl hD hG
  unfold xReader_wrongHere at h
  show J X 0 0 jN (jE (jmix c r)) [(0, .ref 28)] [] 0
  refine j_bipush (pc := 0) (v := (-10 : Int32)) hX dX4_wrongHere_0 (by decide) ?_
  refine j_aload_n (pc := 2) hX dX4_wrongHere_2 rfl rfl ?_
  refine k_getI (pc := 3) (x := (c 28 4)) hX fl_4_27 dX4_wrongHere_3 rfl rfl rfl ?_
  refine j_isub (pc := 6) hX dX4_wrongHere_6 ?_
  replace h := Option.some.inj h
  subst h
  exact j_iret (pc := 7) hX hE rfl rfl dX4_wrongHere_7 (Nat.le_refl 0) (Nat.le_refl 0) ⟨rfl, rfl, rfl⟩

set_option maxHeartbeats 4000000 in
set_option maxRecDepth 100000 in
theorem t_xReader_pass {l : Launch} {D : va_G} {G : Nat → ClassId} {d : Nat} (hdp : 1 ≤ d) {c r : jS} {a1 : Int32} {vE : Int32} {cE : jS} (h : xReader_pass c a1 = some (vE, cE)) : jC l D G d M_xReader_pass [.ref 28, .int a1] (jmix c r) (some (.int vE)) (jmix cE r) := by
  refine jM_of rfl (Nat.le_of_ble_eq_true rfl) ?_
  intro X hl hD hG _ _ hX hE _
  subst hl hD hG
  unfold xReader_pass at h
  show J X 0 0 jN (jE (jmix c r)) [(0, .ref 28), (1, .int a1)] [] 0
  refine j_aload_n (pc := 0) hX dX4_pass_0 rfl rfl ?_
  obtain ⟨r1, h1, h⟩ := ob_some h
  refine k_callVI (pc := 1) (st := []) hX ln_4_62 dX4_pass_1 (t_xReader_byteHere (d := 0) (Nat.le_refl _) h1) rfl rfl rfl (by omega) (Nat.le_of_ble_eq_true rfl) ?_
  refine j_iload_n (pc := 4) hX dX4_pass_4 rfl rfl ?_
  refine j_icmp_eq (pc := 5) (tgt := 13) hX dX4_pass_5 (by decide) (fun z => ?_) (fun z => ?_)
  · replace h := ite_t z h
    refine j_aload_n (pc := 13) hX dX4_pass_13 rfl rfl ?_
    refine j_dup (pc := 14) hX dX4_pass_14 rfl ?_
    refine k_getI (pc := 15) (x := (c 28 4)) hX fl_4_27 dX4_pass_15 rfl rfl rfl ?_
    refine j_iconst (pc := 18) (v := (1 : Int32)) hX dX4_pass_18 (by decide) ?_
    refine j_iadd (pc := 19) hX dX4_pass_19 ?_
    obtain ⟨c2, hc, h⟩ := lt_some h
    refine k_putI (pc := 20) (c' := jmix c2 r) hX pfl_4_27 dX4_pass_20 rfl rfl (fun _ => ⟨rfl, rfl⟩) (jmix_xe rfl hc) ?_
    refine j_iconst (pc := 23) (v := (0 : Int32)) hX dX4_pass_23 (by decide) ?_
    obtain ⟨h, h0⟩ := Prod.mk.inj (Option.some.inj h)
    subst h h0
    exact j_iret (pc := 24) hX hE rfl rfl dX4_pass_24 (Nat.le_refl 0) (Nat.le_refl 0) ⟨rfl, rfl, rfl⟩
  · replace h := ite_f z h
    refine j_aload_n (pc := 8) hX dX4_pass_8 rfl rfl ?_
    obtain ⟨r3, h1, h⟩ := ob_some h
    refine k_callVI (pc := 9) (st := []) hX ln_4_55 dX4_pass_9 (t_xReader_wrongHere (d := 0) (Nat.le_refl _) h1) rfl rfl rfl (by omega) (Nat.le_of_ble_eq_true rfl) ?_
    obtain ⟨h, h0⟩ := Prod.mk.inj (Option.some.inj h)
    subst h h0
    exact j_iret (pc := 12) hX hE rfl rfl dX4_pass_12 (Nat.le_refl 0) (Nat.le_refl 0) ⟨rfl, rfl, rfl⟩

set_option maxHeartbeats 4000000 in
set_option maxRecDepth 100000 in
theorem t_xReader_letterBehind {l : Launch} {D : va_G} {G : Nat → ClassId} {d : Nat} (hdp : 2 ≤ d) {c r : jS} {a1 : Int32} {vE : Int32} {cE : jS} (h : xReader_letterBehind c a1 = some (vE, cE)) : jC l D G d M_xReader_letterBehind [.ref 28, .int a1] (jmix c r) (some (.int vE)) (jmix cE r) := by
  refine jM_of rfl (Nat.le_of_ble_eq_true rfl) ?_
  intro X hl hD hG _ _ hX hE _
  subst hl hD hG
  unfold xReader_letterBehind at h
  show J X 0 0 jN (jE (jmix c r)) [(0, .ref 28), (1, .int a1)] [] 0
  refine j_aload_n (pc := 0) hX dX4_letterBehind_0 rfl rfl ?_
  refine j_iload_n (pc := 1) hX dX4_letterBehind_1 rfl rfl ?_
  obtain ⟨r1, c2, h1, h⟩ := bd_some h
  refine k_callVI (pc := 2) (st := []) hX ln_4_104 dX4_letterBehind_2 (t_xReader_pass (d := 1) (Nat.le_refl _) h1) rfl rfl rfl (by omega) (Nat.le_of_ble_eq_true rfl) ?_
  refine j_istore_n (pc := 5) hX dX4_letterBehind_5 rfl (by decide) (by decide) ?_
  refine j_iload_n (pc := 6) hX dX4_letterBehind_6 rfl rfl ?_
  refine j_if_ge (pc := 7) (tgt := 12) hX dX4_letterBehind_7 (by decide) (fun z => ?_) (fun z => ?_)
  · replace h := ite_t z h
    refine j_aload_n (pc := 12) hX dX4_letterBehind_12 rfl rfl ?_
    obtain ⟨r3, h1, h⟩ := ob_some h
    refine k_callVI (pc := 13) (st := []) hX ln_4_62 dX4_letterBehind_13 (t_xReader_byteHere (d := 0) (Nat.le_refl _) h1) rfl rfl rfl (by omega) (Nat.le_of_ble_eq_true rfl) ?_
    refine j_bipush (pc := 16) (v := (97 : Int32)) hX dX4_letterBehind_16 (by decide) ?_
    refine j_isub (pc := 18) hX dX4_letterBehind_18 ?_
    refine j_istore_n (pc := 19) hX dX4_letterBehind_19 rfl (by decide) (by decide) ?_
    refine j_iload_n (pc := 20) hX dX4_letterBehind_20 rfl rfl ?_
    obtain ⟨r4, h1, h⟩ := ob_some h
    refine k_callNI (pc := 21) (st := []) hX ln_4_81 dX4_letterBehind_21 (t_xc_isLetter (d := 0) (Nat.le_refl _) h1) rfl rfl (by omega) (Nat.le_of_ble_eq_true rfl) ?_
    refine j_if_ne (pc := 24) (tgt := 32) hX dX4_letterBehind_24 (by decide) (fun z => ?_) (fun z => ?_)
    · replace h := ite_f z h
      refine j_aload_n (pc := 32) hX dX4_letterBehind_32 rfl rfl ?_
      refine j_dup (pc := 33) hX dX4_letterBehind_33 rfl ?_
      refine k_getI (pc := 34) (x := (c2 28 4)) hX fl_4_27 dX4_letterBehind_34 rfl rfl rfl ?_
      refine j_iconst (pc := 37) (v := (1 : Int32)) hX dX4_letterBehind_37 (by decide) ?_
      refine j_iadd (pc := 38) hX dX4_letterBehind_38 ?_
      obtain ⟨c5, hc, h⟩ := lt_some h
      refine k_putI (pc := 39) (c' := jmix c5 r) hX pfl_4_27 dX4_letterBehind_39 rfl rfl (fun _ => ⟨rfl, rfl⟩) (jmix_xe rfl hc) ?_
      refine j_iload_n (pc := 42) hX dX4_letterBehind_42 rfl rfl ?_
      obtain ⟨h, h0⟩ := Prod.mk.inj (Option.some.inj h)
      subst h h0
      exact j_iret (pc := 43) hX hE rfl rfl dX4_letterBehind_43 (Nat.le_refl 0) (Nat.le_refl 0) ⟨rfl, rfl, rfl⟩
    · replace h := ite_t z h
      refine j_aload_n (pc := 27) hX dX4_letterBehind_27 rfl rfl ?_
      obtain ⟨r6, h1, h⟩ := ob_some h
      refine k_callVI (pc := 28) (st := []) hX ln_4_55 dX4_letterBehind_28 (t_xReader_wrongHere (d := 0) (Nat.le_refl _) h1) rfl rfl rfl (by omega) (Nat.le_of_ble_eq_true rfl) ?_
      obtain ⟨h, h0⟩ := Prod.mk.inj (Option.some.inj h)
      subst h h0
      exact j_iret (pc := 31) hX hE rfl rfl dX4_letterBehind_31 (Nat.le_refl 0) (Nat.le_refl 0) ⟨rfl, rfl, rfl⟩
  · replace h := ite_f z h
    refine j_iload_n (pc := 10) hX dX4_letterBehind_10 rfl rfl ?_
    obtain ⟨h, h0⟩ := Prod.mk.inj (Option.some.inj h)
    subst h h0
    exact j_iret (pc := 11) hX hE rfl rfl dX4_letterBehind_11 (Nat.le_refl 0) (Nat.le_refl 0) ⟨rfl, rfl, rfl⟩

set_option maxHeartbeats 4000000 in
set_option maxRecDepth 100000 in
theorem t_xReader_beginsType {l : Launch} {D : va_G} {G : Nat → ClassId} {d : Nat} (hdp : 0 ≤ d) {c r : jS} {a0 : Int32} {vE : Int32} (h : xReader_beginsType c a0 = some vE) : jC l D G d M_xReader_beginsType [.int a0] (jmix c r) (some (.int vE)) (jmix c r) := by
  refine jM_of rfl (Nat.le_of_ble_eq_true rfl) ?_
  intro X hl hD hG _ _ hX hE _
  subst hl hD hG
  unfold xReader_beginsType at h
  show J X 0 0 jN (jE (jmix c r)) [(0, .int a0)] [] 0
  refine j_iload_n (pc := 0) hX dX4_beginsType_0 rfl rfl ?_
  refine j_bipush (pc := 1) (v := (105 : Int32)) hX dX4_beginsType_1 (by decide) ?_
  refine j_icmp_eq (pc := 3) (tgt := 12) hX dX4_beginsType_3 (by decide) (fun z => ?_) (fun z => ?_)
  · replace h := ite_t z h
    refine j_iconst (pc := 12) (v := (1 : Int32)) hX dX4_beginsType_12 (by decide) ?_
    refine j_goto (pc := 13) (tgt := 17) hX dX4_beginsType_13 (by decide) ?_
    replace h := Option.some.inj h
    subst h
    exact j_iret (pc := 17) hX hE rfl rfl dX4_beginsType_17 (Nat.le_refl 0) (Nat.le_refl 0) ⟨rfl, rfl, rfl⟩
  · replace h := ite_f z h
    refine j_iload_n (pc := 6) hX dX4_beginsType_6 rfl rfl ?_
    refine j_bipush (pc := 7) (v := (40 : Int32)) hX dX4_beginsType_7 (by decide) ?_
    refine j_icmp_ne (pc := 9) (tgt := 16) hX dX4_beginsType_9 (by decide) (fun z => ?_) (fun z => ?_)
    · replace h := ite_f z h
      refine j_iconst (pc := 16) (v := (0 : Int32)) hX dX4_beginsType_16 (by decide) ?_
      replace h := Option.some.inj h
      subst h
      exact j_iret (pc := 17) hX hE rfl rfl dX4_beginsType_17 (Nat.le_refl 0) (Nat.le_refl 0) ⟨rfl, rfl, rfl⟩
    · replace h := ite_t z h
      refine j_iconst (pc := 12) (v := (1 : Int32)) hX dX4_beginsType_12 (by decide) ?_
      refine j_goto (pc := 13) (tgt := 17) hX dX4_beginsType_13 (by decide) ?_
      replace h := Option.some.inj h
      subst h
      exact j_iret (pc := 17) hX hE rfl rfl dX4_beginsType_17 (Nat.le_refl 0) (Nat.le_refl 0) ⟨rfl, rfl, rfl⟩

set_option maxHeartbeats 4000000 in
set_option maxRecDepth 100000 in
theorem tj_xTypes_arrowOf_P44_2 {X : jX} {d : Nat} {r : jS} {vE : Int32} {cE : jS} (hX : jOk X RX7 cX7_arrowOf 4 d) (hdp : 2 ≤ d) (hE : jEnd X (some .int) 0 0 (fun r0 n0 h0 => r0 = (some (.int vE)) ∧ n0 = jN ∧ h0 = jE (jmix cE r))) {k_2 : Nat} (ih_2 : ∀ (v1 : Int32) (v2 : Int32) (v3 : Int32) (c : jS), lpk (fun s : (Int32 × Int32 × Int32 × jS) => xTypes_arrowOf_S2 s.1 s.2.1 s.2.2.1 s.2.2.2) k_2 (v1, v2, v3, c) = some (vE, cE) → J X 0 0 jN (jE (jmix c r)) [(0, .ref 1), (1, .int v1), (2, .int v2), (3, .int v3)] [] 2) : ∀ (v1 : Int32) (v2 : Int32) (c : jS), lq (fun s : (Int32 × Int32 × Int32 × jS) => xTypes_arrowOf_S2 s.1 s.2.1 s.2.2.1 s.2.2.2) k_2 (vE, cE) (xTypes_arrowOf_P44_2 v1 v2 c) → J X 0 0 jN (jE (jmix c r)) [(0, .ref 1), (1, .int v1), (2, .int v2)] [] 44 := by
  intro v1 v2 c h
  conv at h => arg 4; unfold xTypes_arrowOf_P44_2
  refine j_aload_n (pc := 44) hX dX7_arrowOf_44 rfl rfl ?_
  refine j_iload_n (pc := 45) hX dX7_arrowOf_45 rfl rfl ?_
  obtain ⟨r1, h1, h⟩ := lq_ob h
  refine k_callVI (pc := 46) (st := []) hX ln_7_29 dX7_arrowOf_46 (t_xTypes_lengthOf (d := 1) (Nat.le_refl _) h1) rfl rfl rfl (by omega) (Nat.le_of_ble_eq_true rfl) ?_
  refine j_aload_n (pc := 49) hX dX7_arrowOf_49 rfl rfl ?_
  refine j_iload_n (pc := 50) hX dX7_arrowOf_50 rfl rfl ?_
  obtain ⟨r2, h1, h⟩ := lq_ob h
  refine k_callVI (pc := 51) (st := [.int r1]) hX ln_7_29 dX7_arrowOf_51 (t_xTypes_lengthOf (d := 1) (Nat.le_refl _) h1) rfl rfl rfl (by omega) (Nat.le_of_ble_eq_true rfl) ?_
  refine j_iadd (pc := 54) hX dX7_arrowOf_54 ?_
  refine j_iconst (pc := 55) (v := (3 : Int32)) hX dX7_arrowOf_55 (by decide) ?_
  refine j_iadd (pc := 56) hX dX7_arrowOf_56 ?_
  refine j_istore_n (pc := 57) hX dX7_arrowOf_57 rfl (by decide) (by decide) ?_
  refine j_aload_n (pc := 58) hX dX7_arrowOf_58 rfl rfl ?_
  refine k_getI (pc := 59) (x := (c 1 3)) hX fl_7_21 dX7_arrowOf_59 rfl rfl rfl ?_
  refine j_bipush (pc := 62) (v := (40 : Int32)) hX dX7_arrowOf_62 (by decide) ?_
  refine j_icmp_ge (pc := 64) (tgt := 73) hX dX7_arrowOf_64 (by decide) (fun z => ?_) (fun z => ?_)
  · replace h := lq_t z h
    refine j_bipush (pc := 73) (v := (-3 : Int32)) hX dX7_arrowOf_73 (by decide) ?_
    replace h := lq_r h
    obtain ⟨h, h0⟩ := Prod.mk.inj (Option.some.inj h)
    subst h h0
    exact j_iret (pc := 75) hX hE rfl rfl dX7_arrowOf_75 (Nat.le_refl 0) (Nat.le_refl 0) ⟨rfl, rfl, rfl⟩
  · replace h := lq_f z h
    refine j_iload_n (pc := 67) hX dX7_arrowOf_67 rfl rfl ?_
    refine j_bipush (pc := 68) (v := (40 : Int32)) hX dX7_arrowOf_68 (by decide) ?_
    refine j_icmp_le (pc := 70) (tgt := 76) hX dX7_arrowOf_70 (by decide) (fun z => ?_) (fun z => ?_)
    · replace h := lq_t z h
      refine j_aload_n (pc := 76) hX dX7_arrowOf_76 rfl rfl ?_
      refine k_getR (pc := 77) (q := 2) hX fl_7_9 dX7_arrowOf_77 rfl rfl ?_
      refine j_aload_n (pc := 80) hX dX7_arrowOf_80 rfl rfl ?_
      refine k_getI (pc := 81) (x := (c 1 3)) hX fl_7_21 dX7_arrowOf_81 rfl rfl rfl ?_
      refine j_iload_n (pc := 84) hX dX7_arrowOf_84 rfl rfl ?_
      obtain ⟨hg, h⟩ := lq_gd h
      obtain ⟨c3, hc, h⟩ := lq_lt h
      refine k_iast (pc := 85) (c' := jmix c3 r) hX dX7_arrowOf_85 rfl hg (jmix_xe rfl hc) ?_
      refine j_aload_n (pc := 86) hX dX7_arrowOf_86 rfl rfl ?_
      refine k_getR (pc := 87) (q := 3) hX fl_7_15 dX7_arrowOf_87 rfl rfl ?_
      refine j_aload_n (pc := 90) hX dX7_arrowOf_90 rfl rfl ?_
      refine k_getI (pc := 91) (x := (c3 1 3)) hX fl_7_21 dX7_arrowOf_91 rfl rfl rfl ?_
      refine j_iload_n (pc := 94) hX dX7_arrowOf_94 rfl rfl ?_
      obtain ⟨hg, h⟩ := lq_gd h
      obtain ⟨c4, hc, h⟩ := lq_lt h
      refine k_iast (pc := 95) (c' := jmix c4 r) hX dX7_arrowOf_95 rfl hg (jmix_xe rfl hc) ?_
      refine j_aload_n (pc := 96) hX dX7_arrowOf_96 rfl rfl ?_
      refine k_getR (pc := 97) (q := 4) hX fl_7_18 dX7_arrowOf_97 rfl rfl ?_
      refine j_aload_n (pc := 100) hX dX7_arrowOf_100 rfl rfl ?_
      refine k_getI (pc := 101) (x := (c4 1 3)) hX fl_7_21 dX7_arrowOf_101 rfl rfl rfl ?_
      refine j_iload_n (pc := 104) hX dX7_arrowOf_104 rfl rfl ?_
      obtain ⟨hg, h⟩ := lq_gd h
      obtain ⟨c5, hc, h⟩ := lq_lt h
      refine k_iast (pc := 105) (c' := jmix c5 r) hX dX7_arrowOf_105 rfl hg (jmix_xe rfl hc) ?_
      refine j_aload_n (pc := 106) hX dX7_arrowOf_106 rfl rfl ?_
      refine j_dup (pc := 107) hX dX7_arrowOf_107 rfl ?_
      refine k_getI (pc := 108) (x := (c5 1 3)) hX fl_7_21 dX7_arrowOf_108 rfl rfl rfl ?_
      refine j_iconst (pc := 111) (v := (1 : Int32)) hX dX7_arrowOf_111 (by decide) ?_
      refine j_iadd (pc := 112) hX dX7_arrowOf_112 ?_
      obtain ⟨c6, hc, h⟩ := lq_lt h
      refine k_putI (pc := 113) (c' := jmix c6 r) hX pfl_7_21 dX7_arrowOf_113 rfl rfl (fun _ => ⟨rfl, rfl⟩) (jmix_xe rfl hc) ?_
      refine j_aload_n (pc := 116) hX dX7_arrowOf_116 rfl rfl ?_
      refine k_getI (pc := 117) (x := (c6 1 3)) hX fl_7_21 dX7_arrowOf_117 rfl rfl rfl ?_
      refine j_iconst (pc := 120) (v := (1 : Int32)) hX dX7_arrowOf_120 (by decide) ?_
      refine j_isub (pc := 121) hX dX7_arrowOf_121 ?_
      replace h := lq_r h
      obtain ⟨h, h0⟩ := Prod.mk.inj (Option.some.inj h)
      subst h h0
      exact j_iret (pc := 122) hX hE rfl rfl dX7_arrowOf_122 (Nat.le_refl 0) (Nat.le_refl 0) ⟨rfl, rfl, rfl⟩
    · replace h := lq_f z h
      refine j_bipush (pc := 73) (v := (-3 : Int32)) hX dX7_arrowOf_73 (by decide) ?_
      replace h := lq_r h
      obtain ⟨h, h0⟩ := Prod.mk.inj (Option.some.inj h)
      subst h h0
      exact j_iret (pc := 75) hX hE rfl rfl dX7_arrowOf_75 (Nat.le_refl 0) (Nat.le_refl 0) ⟨rfl, rfl, rfl⟩
set_option maxHeartbeats 4000000 in
set_option maxRecDepth 100000 in
theorem tl_xTypes_arrowOf_L2 {X : jX} {d : Nat} {r : jS} {vE : Int32} {cE : jS} (hX : jOk X RX7 cX7_arrowOf 4 d) (hdp : 2 ≤ d) (hE : jEnd X (some .int) 0 0 (fun r0 n0 h0 => r0 = (some (.int vE)) ∧ n0 = jN ∧ h0 = jE (jmix cE r))) : ∀ (v1 : Int32) (v2 : Int32) (v3 : Int32) (c : jS), xTypes_arrowOf_L2 v1 v2 v3 c = some (vE, cE) → J X 0 0 jN (jE (jmix c r)) [(0, .ref 1), (1, .int v1), (2, .int v2), (3, .int v3)] [] 2 := by
  intro v1 v2 v3 c h
  unfold xTypes_arrowOf_L2 at h
  replace h := lp_some h
  obtain ⟨k_2, h⟩ := h
  induction k_2 generalizing v1 v2 v3 c with
  | zero => cases h
  | succ k_2 ih_2 =>
    replace h : lq (fun s : (Int32 × Int32 × Int32 × jS) => xTypes_arrowOf_S2 s.1 s.2.1 s.2.2.1 s.2.2.2) k_2 (vE, cE) (xTypes_arrowOf_S2 v1 v2 v3 c) := lpk_succ (s := (v1, v2, v3, c)) h
    conv at h => arg 4; unfold xTypes_arrowOf_S2
    refine j_iload_n (pc := 2) hX dX7_arrowOf_2 rfl rfl ?_
    refine j_aload_n (pc := 3) hX dX7_arrowOf_3 rfl rfl ?_
    refine k_getI (pc := 4) (x := (c 1 3)) hX fl_7_21 dX7_arrowOf_4 rfl rfl rfl ?_
    refine j_icmp_ge (pc := 7) (tgt := 44) hX dX7_arrowOf_7 (by decide) (fun z => ?_) (fun z => ?_)
    · replace h := lq_t z h
      refine j_sub (lv' := [(0, .ref 1), (1, .int v1), (2, .int v2)]) ⟨rfl, rfl, rfl, trivial⟩ ?_
      exact tj_xTypes_arrowOf_P44_2 hX hdp hE ih_2 _ _ _ h
    · replace h := lq_f z h
      refine j_iload_n (pc := 10) hX dX7_arrowOf_10 rfl rfl ?_
      refine j_bipush (pc := 11) (v := (40 : Int32)) hX dX7_arrowOf_11 (by decide) ?_
      refine j_icmp_ge (pc := 13) (tgt := 44) hX dX7_arrowOf_13 (by decide) (fun z => ?_) (fun z => ?_)
      · replace h := lq_t z h
        refine j_sub (lv' := [(0, .ref 1), (1, .int v1), (2, .int v2)]) ⟨rfl, rfl, rfl, trivial⟩ ?_
        exact tj_xTypes_arrowOf_P44_2 hX hdp hE ih_2 _ _ _ h
      · replace h := lq_f z h
        refine j_aload_n (pc := 16) hX dX7_arrowOf_16 rfl rfl ?_
        refine k_getR (pc := 17) (q := 2) hX fl_7_9 dX7_arrowOf_17 rfl rfl ?_
        refine j_iload_n (pc := 20) hX dX7_arrowOf_20 rfl rfl ?_
        obtain ⟨hg, h⟩ := lq_gd h
        refine k_iald (pc := 21) (x := (c 2 (v3).toNatClampNeg)) hX dX7_arrowOf_21 rfl hg rfl ?_
        refine j_iload_n (pc := 22) hX dX7_arrowOf_22 rfl rfl ?_
        refine j_icmp_ne (pc := 23) (tgt := 38) hX dX7_arrowOf_23 (by decide) (fun z => ?_) (fun z => ?_)
        · replace h := lq_f z h
          refine j_iinc (pc := 38) hX dX7_arrowOf_38 rfl (v := (v3 + (1 : Int32))) rfl (by decide) (by decide) ?_
          refine j_goto (pc := 41) (tgt := 2) hX dX7_arrowOf_41 (by decide) ?_
          refine j_sub (lv' := [(0, .ref 1), (1, .int v1), (2, .int v2), (3, .int (v3 + (1 : Int32)))]) ⟨rfl, rfl, rfl, rfl, trivial⟩ ?_
          exact ih_2 _ _ _ _ (lq_l h)
        · replace h := lq_t z h
          refine j_aload_n (pc := 26) hX dX7_arrowOf_26 rfl rfl ?_
          refine k_getR (pc := 27) (q := 3) hX fl_7_15 dX7_arrowOf_27 rfl rfl ?_
          refine j_iload_n (pc := 30) hX dX7_arrowOf_30 rfl rfl ?_
          obtain ⟨hg, h⟩ := lq_gd h
          refine k_iald (pc := 31) (x := (c 3 (v3).toNatClampNeg)) hX dX7_arrowOf_31 rfl hg rfl ?_
          refine j_iload_n (pc := 32) hX dX7_arrowOf_32 rfl rfl ?_
          refine j_icmp_ne (pc := 33) (tgt := 38) hX dX7_arrowOf_33 (by decide) (fun z => ?_) (fun z => ?_)
          · replace h := lq_f z h
            refine j_iinc (pc := 38) hX dX7_arrowOf_38 rfl (v := (v3 + (1 : Int32))) rfl (by decide) (by decide) ?_
            refine j_goto (pc := 41) (tgt := 2) hX dX7_arrowOf_41 (by decide) ?_
            refine j_sub (lv' := [(0, .ref 1), (1, .int v1), (2, .int v2), (3, .int (v3 + (1 : Int32)))]) ⟨rfl, rfl, rfl, rfl, trivial⟩ ?_
            exact ih_2 _ _ _ _ (lq_l h)
          · replace h := lq_t z h
            refine j_iload_n (pc := 36) hX dX7_arrowOf_36 rfl rfl ?_
            replace h := lq_r h
            obtain ⟨h, h0⟩ := Prod.mk.inj (Option.some.inj h)
            subst h h0
            exact j_iret (pc := 37) hX hE rfl rfl dX7_arrowOf_37 (Nat.le_refl 0) (Nat.le_refl 0) ⟨rfl, rfl, rfl⟩
set_option maxHeartbeats 4000000 in
set_option maxRecDepth 100000 in
theorem t_xTypes_arrowOf {l : Launch} {D : va_G} {G : Nat → ClassId} {d : Nat} (hdp : 2 ≤ d) {c r : jS} {a1 : Int32} {a2 : Int32} {vE : Int32} {cE : jS} (h : xTypes_arrowOf c a1 a2 = some (vE, cE)) : jC l D G d M_xTypes_arrowOf [.ref 1, .int a1, .int a2] (jmix c r) (some (.int vE)) (jmix cE r) := by
  refine jM_of rfl (Nat.le_of_ble_eq_true rfl) ?_
  intro X hl hD hG _ _ hX hE _
  subst hl hD hG
  unfold xTypes_arrowOf at h
  show J X 0 0 jN (jE (jmix c r)) [(0, .ref 1), (1, .int a1), (2, .int a2)] [] 0
  refine j_iconst (pc := 0) (v := (0 : Int32)) hX dX7_arrowOf_0 (by decide) ?_
  refine j_istore_n (pc := 1) hX dX7_arrowOf_1 rfl (by decide) (by decide) ?_
  refine j_sub (lv' := [(0, .ref 1), (1, .int a1), (2, .int a2), (3, .int (0 : Int32))]) ⟨rfl, rfl, rfl, rfl, trivial⟩ ?_
  exact tl_xTypes_arrowOf_L2 hX hdp hE _ _ _ _ h

set_option maxHeartbeats 4000000 in
set_option maxRecDepth 100000 in
theorem tb_xReader_typeHere {l : Launch} {D : va_G} {G : Nat → ClassId} {d : Nat} {e : Nat} {F_typeHere : jS → Int32 → Option (Int32 × jS)} {F_typeBehind : jS → Int32 → Int32 → Option (Int32 × jS)} (i0 : ∀ (c r : jS) (a1 : Int32) (vE : Int32) (cE : jS), F_typeHere c a1 = some (vE, cE) → jC l D G e M_xReader_typeHere [.ref 28, .int a1] (jmix c r) (some (.int vE)) (jmix cE r)) (i1 : ∀ (c r : jS) (a1 : Int32) (a2 : Int32) (vE : Int32) (cE : jS), F_typeBehind c a1 a2 = some (vE, cE) → jC l D G e M_xReader_typeBehind [.ref 28, .int a1, .int a2] (jmix c r) (some (.int vE)) (jmix cE r)) (hdp : 3 ≤ d) (hde : e + 1 ≤ d) {c r : jS} {a1 : Int32} {vE : Int32} {cE : jS} (h : b_xReader_typeHere F_typeHere F_typeBehind c a1 = some (vE, cE)) : jC l D G d M_xReader_typeHere [.ref 28, .int a1] (jmix c r) (some (.int vE)) (jmix cE r) := by
  refine jM_of rfl (Nat.le_of_ble_eq_true rfl) ?_
  intro X hl hD hG _ _ hX hE _
  subst hl hD hG
  unfold b_xReader_typeHere at h
  show J X 0 0 jN (jE (jmix c r)) [(0, .ref 28), (1, .int a1)] [] 0
  refine j_aload_n (pc := 0) hX dX4_typeHere_0 rfl rfl ?_
  obtain ⟨r1, h1, h⟩ := ob_some h
  refine k_callVI (pc := 1) (st := []) hX ln_4_62 dX4_typeHere_1 (t_xReader_byteHere (d := 0) (Nat.le_refl _) h1) rfl rfl rfl (by omega) (Nat.le_of_ble_eq_true rfl) ?_
  refine j_istore_n (pc := 4) hX dX4_typeHere_4 rfl (by decide) (by decide) ?_
  refine j_iload_n (pc := 5) hX dX4_typeHere_5 rfl rfl ?_
  obtain ⟨r2, h1, h⟩ := ob_some h
  refine k_callSI (pc := 6) (st := []) hX ln_4_125 dX4_typeHere_6 (t_xReader_beginsType (d := 0) (Nat.le_refl _) h1) rfl rfl (by omega) (Nat.le_of_ble_eq_true rfl) ?_
  refine j_if_ne (pc := 9) (tgt := 17) hX dX4_typeHere_9 (by decide) (fun z => ?_) (fun z => ?_)
  · replace h := ite_f z h
    refine j_iload_n (pc := 17) hX dX4_typeHere_17 rfl rfl ?_
    refine j_bipush (pc := 18) (v := (40 : Int32)) hX dX4_typeHere_18 (by decide) ?_
    refine j_icmp_le (pc := 20) (tgt := 26) hX dX4_typeHere_20 (by decide) (fun z => ?_) (fun z => ?_)
    · replace h := ite_t z h
      refine j_iload_n (pc := 26) hX dX4_typeHere_26 rfl rfl ?_
      refine j_bipush (pc := 27) (v := (105 : Int32)) hX dX4_typeHere_27 (by decide) ?_
      refine j_icmp_ne (pc := 29) (tgt := 44) hX dX4_typeHere_29 (by decide) (fun z => ?_) (fun z => ?_)
      · replace h := ite_f z h
        refine j_aload_n (pc := 44) hX dX4_typeHere_44 rfl rfl ?_
        refine j_bipush (pc := 45) (v := (40 : Int32)) hX dX4_typeHere_45 (by decide) ?_
        refine j_iload_n (pc := 47) hX dX4_typeHere_47 rfl rfl ?_
        refine j_iconst (pc := 48) (v := (1 : Int32)) hX dX4_typeHere_48 (by decide) ?_
        refine j_iadd (pc := 49) hX dX4_typeHere_49 ?_
        obtain ⟨r3, c4, h1, h⟩ := bd_some h
        refine k_callVI (pc := 50) (st := []) hX ln_4_128 dX4_typeHere_50 (i1 _ _ _ _ _ _ h1) rfl rfl rfl hde (Nat.le_of_ble_eq_true rfl) ?_
        refine j_istore_n (pc := 53) hX dX4_typeHere_53 rfl (by decide) (by decide) ?_
        refine j_iload_n (pc := 54) hX dX4_typeHere_54 rfl rfl ?_
        refine j_if_ge (pc := 55) (tgt := 60) hX dX4_typeHere_55 (by decide) (fun z => ?_) (fun z => ?_)
        · replace h := ite_t z h
          refine j_aload_n (pc := 60) hX dX4_typeHere_60 rfl rfl ?_
          refine j_bipush (pc := 61) (v := (62 : Int32)) hX dX4_typeHere_61 (by decide) ?_
          refine j_iload_n (pc := 63) hX dX4_typeHere_63 rfl rfl ?_
          refine j_iconst (pc := 64) (v := (1 : Int32)) hX dX4_typeHere_64 (by decide) ?_
          refine j_iadd (pc := 65) hX dX4_typeHere_65 ?_
          obtain ⟨r5, c6, h1, h⟩ := bd_some h
          refine k_callVI (pc := 66) (st := []) hX ln_4_128 dX4_typeHere_66 (i1 _ _ _ _ _ _ h1) rfl rfl rfl hde (Nat.le_of_ble_eq_true rfl) ?_
          refine j_istore (pc := 69) hX dX4_typeHere_69 (by decide) (by decide) ?_
          refine j_iload (pc := 71) hX dX4_typeHere_71 rfl ?_
          refine j_if_ge (pc := 73) (tgt := 79) hX dX4_typeHere_73 (by decide) (fun z => ?_) (fun z => ?_)
          · replace h := ite_t z h
            refine j_aload_n (pc := 79) hX dX4_typeHere_79 rfl rfl ?_
            refine j_bipush (pc := 80) (v := (41 : Int32)) hX dX4_typeHere_80 (by decide) ?_
            obtain ⟨r7, c8, h1, h⟩ := bd_some h
            refine k_callVI (pc := 82) (st := []) hX ln_4_104 dX4_typeHere_82 (t_xReader_pass (d := 1) (Nat.le_refl _) h1) rfl rfl rfl (by omega) (Nat.le_of_ble_eq_true rfl) ?_
            refine j_istore (pc := 85) hX dX4_typeHere_85 (by decide) (by decide) ?_
            refine j_iload (pc := 87) hX dX4_typeHere_87 rfl ?_
            refine j_if_ge (pc := 89) (tgt := 97) hX dX4_typeHere_89 (by decide) (fun z => ?_) (fun z => ?_)
            · replace h := ite_t z h
              refine j_aload_n (pc := 97) hX dX4_typeHere_97 rfl rfl ?_
              refine k_getR (pc := 98) (q := 1) hX fl_4_15 dX4_typeHere_98 rfl rfl ?_
              refine j_iload_n (pc := 101) hX dX4_typeHere_101 rfl rfl ?_
              refine j_iload (pc := 102) hX dX4_typeHere_102 rfl ?_
              obtain ⟨r9, c10, h1, h⟩ := bd_some h
              refine k_callVI (pc := 104) (st := []) hX ln_4_131 dX4_typeHere_104 (t_xTypes_arrowOf (d := 2) (Nat.le_refl _) h1) rfl rfl rfl (by omega) (Nat.le_of_ble_eq_true rfl) ?_
              obtain ⟨h, h0⟩ := Prod.mk.inj (Option.some.inj h)
              subst h h0
              exact j_iret (pc := 107) hX hE rfl rfl dX4_typeHere_107 (Nat.le_refl 0) (Nat.le_refl 0) ⟨rfl, rfl, rfl⟩
            · replace h := ite_f z h
              refine j_iload (pc := 92) hX dX4_typeHere_92 rfl ?_
              refine j_goto (pc := 94) (tgt := 107) hX dX4_typeHere_94 (by decide) ?_
              obtain ⟨h, h0⟩ := Prod.mk.inj (Option.some.inj h)
              subst h h0
              exact j_iret (pc := 107) hX hE rfl rfl dX4_typeHere_107 (Nat.le_refl 0) (Nat.le_refl 0) ⟨rfl, rfl, rfl⟩
          · replace h := ite_f z h
            refine j_iload (pc := 76) hX dX4_typeHere_76 rfl ?_
            obtain ⟨h, h0⟩ := Prod.mk.inj (Option.some.inj h)
            subst h h0
            exact j_iret (pc := 78) hX hE rfl rfl dX4_typeHere_78 (Nat.le_refl 0) (Nat.le_refl 0) ⟨rfl, rfl, rfl⟩
        · replace h := ite_f z h
          refine j_iload_n (pc := 58) hX dX4_typeHere_58 rfl rfl ?_
          obtain ⟨h, h0⟩ := Prod.mk.inj (Option.some.inj h)
          subst h h0
          exact j_iret (pc := 59) hX hE rfl rfl dX4_typeHere_59 (Nat.le_refl 0) (Nat.le_refl 0) ⟨rfl, rfl, rfl⟩
      · replace h := ite_t z h
        refine j_aload_n (pc := 32) hX dX4_typeHere_32 rfl rfl ?_
        refine j_dup (pc := 33) hX dX4_typeHere_33 rfl ?_
        refine k_getI (pc := 34) (x := (c 28 4)) hX fl_4_27 dX4_typeHere_34 rfl rfl rfl ?_
        refine j_iconst (pc := 37) (v := (1 : Int32)) hX dX4_typeHere_37 (by decide) ?_
        refine j_iadd (pc := 38) hX dX4_typeHere_38 ?_
        obtain ⟨c11, hc, h⟩ := lt_some h
        refine k_putI (pc := 39) (c' := jmix c11 r) hX pfl_4_27 dX4_typeHere_39 rfl rfl (fun _ => ⟨rfl, rfl⟩) (jmix_xe rfl hc) ?_
        refine j_iconst (pc := 42) (v := (0 : Int32)) hX dX4_typeHere_42 (by decide) ?_
        obtain ⟨h, h0⟩ := Prod.mk.inj (Option.some.inj h)
        subst h h0
        exact j_iret (pc := 43) hX hE rfl rfl dX4_typeHere_43 (Nat.le_refl 0) (Nat.le_refl 0) ⟨rfl, rfl, rfl⟩
    · replace h := ite_f z h
      refine j_bipush (pc := 23) (v := (-3 : Int32)) hX dX4_typeHere_23 (by decide) ?_
      obtain ⟨h, h0⟩ := Prod.mk.inj (Option.some.inj h)
      subst h h0
      exact j_iret (pc := 25) hX hE rfl rfl dX4_typeHere_25 (Nat.le_refl 0) (Nat.le_refl 0) ⟨rfl, rfl, rfl⟩
  · replace h := ite_t z h
    refine j_aload_n (pc := 12) hX dX4_typeHere_12 rfl rfl ?_
    obtain ⟨r12, h1, h⟩ := ob_some h
    refine k_callVI (pc := 13) (st := []) hX ln_4_55 dX4_typeHere_13 (t_xReader_wrongHere (d := 0) (Nat.le_refl _) h1) rfl rfl rfl (by omega) (Nat.le_of_ble_eq_true rfl) ?_
    obtain ⟨h, h0⟩ := Prod.mk.inj (Option.some.inj h)
    subst h h0
    exact j_iret (pc := 16) hX hE rfl rfl dX4_typeHere_16 (Nat.le_refl 0) (Nat.le_refl 0) ⟨rfl, rfl, rfl⟩

set_option maxHeartbeats 4000000 in
set_option maxRecDepth 100000 in
theorem tb_xReader_typeBehind {l : Launch} {D : va_G} {G : Nat → ClassId} {d : Nat} {e : Nat} {F_typeHere : jS → Int32 → Option (Int32 × jS)} {F_typeBehind : jS → Int32 → Int32 → Option (Int32 × jS)} (i0 : ∀ (c r : jS) (a1 : Int32) (vE : Int32) (cE : jS), F_typeHere c a1 = some (vE, cE) → jC l D G e M_xReader_typeHere [.ref 28, .int a1] (jmix c r) (some (.int vE)) (jmix cE r)) (i1 : ∀ (c r : jS) (a1 : Int32) (a2 : Int32) (vE : Int32) (cE : jS), F_typeBehind c a1 a2 = some (vE, cE) → jC l D G e M_xReader_typeBehind [.ref 28, .int a1, .int a2] (jmix c r) (some (.int vE)) (jmix cE r)) (hdp : 3 ≤ d) (hde : e + 1 ≤ d) {c r : jS} {a1 : Int32} {a2 : Int32} {vE : Int32} {cE : jS} (h : b_xReader_typeBehind F_typeHere F_typeBehind c a1 a2 = some (vE, cE)) : jC l D G d M_xReader_typeBehind [.ref 28, .int a1, .int a2] (jmix c r) (some (.int vE)) (jmix cE r) := by
  refine jM_of rfl (Nat.le_of_ble_eq_true rfl) ?_
  intro X hl hD hG _ _ hX hE _
  subst hl hD hG
  unfold b_xReader_typeBehind at h
  show J X 0 0 jN (jE (jmix c r)) [(0, .ref 28), (1, .int a1), (2, .int a2)] [] 0
  refine j_aload_n (pc := 0) hX dX4_typeBehind_0 rfl rfl ?_
  refine j_iload_n (pc := 1) hX dX4_typeBehind_1 rfl rfl ?_
  obtain ⟨r1, c2, h1, h⟩ := bd_some h
  refine k_callVI (pc := 2) (st := []) hX ln_4_104 dX4_typeBehind_2 (t_xReader_pass (d := 1) (Nat.le_refl _) h1) rfl rfl rfl (by omega) (Nat.le_of_ble_eq_true rfl) ?_
  refine j_istore_n (pc := 5) hX dX4_typeBehind_5 rfl (by decide) (by decide) ?_
  refine j_iload_n (pc := 6) hX dX4_typeBehind_6 rfl rfl ?_
  refine j_if_ge (pc := 7) (tgt := 14) hX dX4_typeBehind_7 (by decide) (fun z => ?_) (fun z => ?_)
  · replace h := ite_t z h
    refine j_aload_n (pc := 14) hX dX4_typeBehind_14 rfl rfl ?_
    refine j_iload_n (pc := 15) hX dX4_typeBehind_15 rfl rfl ?_
    obtain ⟨r3, c4, h1, h⟩ := bd_some h
    refine k_callVI (pc := 16) (st := []) hX ln_4_107 dX4_typeBehind_16 (i0 _ _ _ _ _ h1) rfl rfl rfl hde (Nat.le_of_ble_eq_true rfl) ?_
    obtain ⟨h, h0⟩ := Prod.mk.inj (Option.some.inj h)
    subst h h0
    exact j_iret (pc := 19) hX hE rfl rfl dX4_typeBehind_19 (Nat.le_refl 0) (Nat.le_refl 0) ⟨rfl, rfl, rfl⟩
  · replace h := ite_f z h
    refine j_iload_n (pc := 10) hX dX4_typeBehind_10 rfl rfl ?_
    refine j_goto (pc := 11) (tgt := 19) hX dX4_typeBehind_11 (by decide) ?_
    obtain ⟨h, h0⟩ := Prod.mk.inj (Option.some.inj h)
    subst h h0
    exact j_iret (pc := 19) hX hE rfl rfl dX4_typeBehind_19 (Nat.le_refl 0) (Nat.le_refl 0) ⟨rfl, rfl, rfl⟩

set_option maxHeartbeats 4000000 in
set_option maxRecDepth 100000 in
theorem tg_xReader_typeHere {l : Launch} {D : va_G} {G : Nat → ClassId} : ∀ f : Nat, (∀ (c r : jS) (a1 : Int32) (vE : Int32) (cE : jS), xReader_typeHere f c a1 = some (vE, cE) → jC l D G (f + 3) M_xReader_typeHere [.ref 28, .int a1] (jmix c r) (some (.int vE)) (jmix cE r)) ∧
    (∀ (c r : jS) (a1 : Int32) (a2 : Int32) (vE : Int32) (cE : jS), xReader_typeBehind f c a1 a2 = some (vE, cE) → jC l D G (f + 3) M_xReader_typeBehind [.ref 28, .int a1, .int a2] (jmix c r) (some (.int vE)) (jmix cE r)) := by
  intro f
  induction f with
  | zero =>
    exact ⟨fun _ _ _ _ _ h => (by cases h), fun _ _ _ _ _ _ h => (by cases h)⟩
  | succ f ih =>
    obtain ⟨i0, i1⟩ := ih
    exact ⟨fun _ _ _ _ _ h => tb_xReader_typeHere (e := f + 3) i0 i1 (by omega) (by omega) h,
      fun _ _ _ _ _ _ h => tb_xReader_typeBehind (e := f + 3) i0 i1 (by omega) (by omega) h⟩

theorem t_xReader_typeHere {l : Launch} {D : va_G} {G : Nat → ClassId} {c r : jS} {a1 : Int32} {vE : Int32} {cE : jS} (h : xReader_typeHere 130 c a1 = some (vE, cE)) : jC l D G 133 M_xReader_typeHere [.ref 28, .int a1] (jmix c r) (some (.int vE)) (jmix cE r) := (tg_xReader_typeHere 130).1 _ _ _ _ _ h

theorem t_xReader_typeBehind {l : Launch} {D : va_G} {G : Nat → ClassId} {c r : jS} {a1 : Int32} {a2 : Int32} {vE : Int32} {cE : jS} (h : xReader_typeBehind 130 c a1 a2 = some (vE, cE)) : jC l D G 133 M_xReader_typeBehind [.ref 28, .int a1, .int a2] (jmix c r) (some (.int vE)) (jmix cE r) := (tg_xReader_typeHere 130).2 _ _ _ _ _ _ h

set_option maxHeartbeats 4000000 in
set_option maxRecDepth 100000 in
theorem t_xTerms_newFunction {l : Launch} {D : va_G} {G : Nat → ClassId} {d : Nat} (hdp : 3 ≤ d) {c r : jS} {a1 : Int32} {a2 : Int32} {a3 : Int32} {vE : Int32} {cE : jS} (h : xTerms_newFunction c a1 a2 a3 = some (vE, cE)) : jC l D G d M_xTerms_newFunction [.ref 5, .int a1, .int a2, .int a3] (jmix c r) (some (.int vE)) (jmix cE r) := by
  refine jM_of rfl (Nat.le_of_ble_eq_true rfl) ?_
  intro X hl hD hG _ _ hX hE _
  subst hl hD hG
  unfold xTerms_newFunction at h
  show J X 0 0 jN (jE (jmix c r)) [(0, .ref 5), (1, .int a1), (2, .int a2), (3, .int a3)] [] 0
  refine j_aload_n (pc := 0) hX dX6_newFunction_0 rfl rfl ?_
  refine j_iconst (pc := 1) (v := (2 : Int32)) hX dX6_newFunction_1 (by decide) ?_
  refine j_iload_n (pc := 2) hX dX6_newFunction_2 rfl rfl ?_
  refine j_iload_n (pc := 3) hX dX6_newFunction_3 rfl rfl ?_
  refine j_iload_n (pc := 4) hX dX6_newFunction_4 rfl rfl ?_
  refine j_bipush (pc := 5) (v := (-2 : Int32)) hX dX6_newFunction_5 (by decide) ?_
  refine j_bipush (pc := 7) (v := (-2 : Int32)) hX dX6_newFunction_7 (by decide) ?_
  obtain ⟨r1, c2, h1, h⟩ := bd_some h
  refine k_callVI (pc := 9) (st := []) hX ln_6_87 dX6_newFunction_9 (t_xTerms_made (d := 2) (Nat.le_refl _) h1) rfl rfl rfl (by omega) (Nat.le_of_ble_eq_true rfl) ?_
  obtain ⟨h, h0⟩ := Prod.mk.inj (Option.some.inj h)
  subst h h0
  exact j_iret (pc := 12) hX hE rfl rfl dX6_newFunction_12 (Nat.le_refl 0) (Nat.le_refl 0) ⟨rfl, rfl, rfl⟩

set_option maxHeartbeats 4000000 in
set_option maxRecDepth 100000 in
theorem t_xTerms_newJoined {l : Launch} {D : va_G} {G : Nat → ClassId} {d : Nat} (hdp : 3 ≤ d) {c r : jS} {a1 : Int32} {a2 : Int32} {a3 : Int32} {a4 : Int32} {vE : Int32} {cE : jS} (h : xTerms_newJoined c a1 a2 a3 a4 = some (vE, cE)) : jC l D G d M_xTerms_newJoined [.ref 5, .int a1, .int a2, .int a3, .int a4] (jmix c r) (some (.int vE)) (jmix cE r) := by
  refine jM_of rfl (Nat.le_of_ble_eq_true rfl) ?_
  intro X hl hD hG _ _ hX hE _
  subst hl hD hG
  unfold xTerms_newJoined at h
  show J X 0 0 jN (jE (jmix c r)) [(0, .ref 5), (1, .int a1), (2, .int a2), (3, .int a3), (4, .int a4)] [] 0
  refine j_aload_n (pc := 0) hX dX6_newJoined_0 rfl rfl ?_
  refine j_iload_n (pc := 1) hX dX6_newJoined_1 rfl rfl ?_
  refine j_bipush (pc := 2) (v := (-2 : Int32)) hX dX6_newJoined_2 (by decide) ?_
  refine j_bipush (pc := 4) (v := (-2 : Int32)) hX dX6_newJoined_4 (by decide) ?_
  refine j_iload_n (pc := 6) hX dX6_newJoined_6 rfl rfl ?_
  refine j_iload_n (pc := 7) hX dX6_newJoined_7 rfl rfl ?_
  refine j_iload (pc := 8) hX dX6_newJoined_8 rfl ?_
  obtain ⟨r1, c2, h1, h⟩ := bd_some h
  refine k_callVI (pc := 10) (st := []) hX ln_6_87 dX6_newJoined_10 (t_xTerms_made (d := 2) (Nat.le_refl _) h1) rfl rfl rfl (by omega) (Nat.le_of_ble_eq_true rfl) ?_
  obtain ⟨h, h0⟩ := Prod.mk.inj (Option.some.inj h)
  subst h h0
  exact j_iret (pc := 13) hX hE rfl rfl dX6_newJoined_13 (Nat.le_refl 0) (Nat.le_refl 0) ⟨rfl, rfl, rfl⟩

set_option maxHeartbeats 4000000 in
set_option maxRecDepth 100000 in
theorem t_xTerms_newLet {l : Launch} {D : va_G} {G : Nat → ClassId} {d : Nat} (hdp : 3 ≤ d) {c r : jS} {a1 : Int32} {a2 : Int32} {a3 : Int32} {vE : Int32} {cE : jS} (h : xTerms_newLet c a1 a2 a3 = some (vE, cE)) : jC l D G d M_xTerms_newLet [.ref 5, .int a1, .int a2, .int a3] (jmix c r) (some (.int vE)) (jmix cE r) := by
  refine jM_of rfl (Nat.le_of_ble_eq_true rfl) ?_
  intro X hl hD hG _ _ hX hE _
  subst hl hD hG
  unfold xTerms_newLet at h
  show J X 0 0 jN (jE (jmix c r)) [(0, .ref 5), (1, .int a1), (2, .int a2), (3, .int a3)] [] 0
  refine j_aload_n (pc := 0) hX dX6_newLet_0 rfl rfl ?_
  refine j_iconst (pc := 1) (v := (4 : Int32)) hX dX6_newLet_1 (by decide) ?_
  refine j_iload_n (pc := 2) hX dX6_newLet_2 rfl rfl ?_
  refine j_bipush (pc := 3) (v := (-2 : Int32)) hX dX6_newLet_3 (by decide) ?_
  refine j_iload_n (pc := 5) hX dX6_newLet_5 rfl rfl ?_
  refine j_iload_n (pc := 6) hX dX6_newLet_6 rfl rfl ?_
  refine j_bipush (pc := 7) (v := (-2 : Int32)) hX dX6_newLet_7 (by decide) ?_
  obtain ⟨r1, c2, h1, h⟩ := bd_some h
  refine k_callVI (pc := 9) (st := []) hX ln_6_87 dX6_newLet_9 (t_xTerms_made (d := 2) (Nat.le_refl _) h1) rfl rfl rfl (by omega) (Nat.le_of_ble_eq_true rfl) ?_
  obtain ⟨h, h0⟩ := Prod.mk.inj (Option.some.inj h)
  subst h h0
  exact j_iret (pc := 12) hX hE rfl rfl dX6_newLet_12 (Nat.le_refl 0) (Nat.le_refl 0) ⟨rfl, rfl, rfl⟩

set_option maxHeartbeats 4000000 in
set_option maxRecDepth 100000 in
theorem t_xReader_nameHere {l : Launch} {D : va_G} {G : Nat → ClassId} {d : Nat} (hdp : 4 ≤ d) {c r : jS} {vE : Int32} {cE : jS} (h : xReader_nameHere c = some (vE, cE)) : jC l D G d M_xReader_nameHere [.ref 28] (jmix c r) (some (.int vE)) (jmix cE r) := by
  refine jM_of rfl (Nat.le_of_ble_eq_true rfl) ?_
  intro X hl hD hG _ _ hX hE _
  subst hl hD hG
  unfold xReader_nameHere at h
  show J X 0 0 jN (jE (jmix c r)) [(0, .ref 28)] [] 0
  refine j_aload_n (pc := 0) hX dX4_nameHere_0 rfl rfl ?_
  obtain ⟨r1, h1, h⟩ := ob_some h
  refine k_callVI (pc := 1) (st := []) hX ln_4_62 dX4_nameHere_1 (t_xReader_byteHere (d := 0) (Nat.le_refl _) h1) rfl rfl rfl (by omega) (Nat.le_of_ble_eq_true rfl) ?_
  refine j_bipush (pc := 4) (v := (97 : Int32)) hX dX4_nameHere_4 (by decide) ?_
  refine j_isub (pc := 6) hX dX4_nameHere_6 ?_
  refine j_istore_n (pc := 7) hX dX4_nameHere_7 rfl (by decide) (by decide) ?_
  refine j_aload_n (pc := 8) hX dX4_nameHere_8 rfl rfl ?_
  refine j_dup (pc := 9) hX dX4_nameHere_9 rfl ?_
  refine k_getI (pc := 10) (x := (c 28 4)) hX fl_4_27 dX4_nameHere_10 rfl rfl rfl ?_
  refine j_iconst (pc := 13) (v := (1 : Int32)) hX dX4_nameHere_13 (by decide) ?_
  refine j_iadd (pc := 14) hX dX4_nameHere_14 ?_
  obtain ⟨c2, hc, h⟩ := lt_some h
  refine k_putI (pc := 15) (c' := jmix c2 r) hX pfl_4_27 dX4_nameHere_15 rfl rfl (fun _ => ⟨rfl, rfl⟩) (jmix_xe rfl hc) ?_
  refine j_aload_n (pc := 18) hX dX4_nameHere_18 rfl rfl ?_
  refine k_getR (pc := 19) (q := 5) hX fl_4_19 dX4_nameHere_19 rfl rfl ?_
  refine j_iload_n (pc := 22) hX dX4_nameHere_22 rfl rfl ?_
  obtain ⟨r3, c4, h1, h⟩ := bd_some h
  refine k_callVI (pc := 23) (st := []) hX ln_4_90 dX4_nameHere_23 (t_xTerms_newName (d := 3) (Nat.le_refl _) h1) rfl rfl rfl (by omega) (Nat.le_of_ble_eq_true rfl) ?_
  obtain ⟨h, h0⟩ := Prod.mk.inj (Option.some.inj h)
  subst h h0
  exact j_iret (pc := 26) hX hE rfl rfl dX4_nameHere_26 (Nat.le_refl 0) (Nat.le_refl 0) ⟨rfl, rfl, rfl⟩

set_option maxHeartbeats 4000000 in
set_option maxRecDepth 100000 in
theorem tl_xTerms_digitsOf_L17 {X : jX} {d : Nat} {c r : jS} {vE : Int32} (hX : jOk X RX6 cX6_digitsOf 4 d) (hdp : 0 ≤ d) (hE : jEnd X (some .int) 0 0 (fun r0 n0 h0 => r0 = (some (.int vE)) ∧ n0 = jN ∧ h0 = jE (jmix c r))) : ∀ (v1 : Int32) (v2 : Int32) (v3 : Int32), xTerms_digitsOf_L17 v1 v2 v3 c = some vE → J X 0 0 jN (jE (jmix c r)) [(1, .int v1), (2, .int v2), (3, .int v3)] [] 17 := by
  intro v1 v2 v3 h
  unfold xTerms_digitsOf_L17 at h
  replace h := lp_some h
  obtain ⟨k_17, h⟩ := h
  induction k_17 generalizing v1 v2 v3 with
  | zero => cases h
  | succ k_17 ih_17 =>
    replace h : lq (fun s : (Int32 × Int32 × Int32) => xTerms_digitsOf_S17 s.1 s.2.1 s.2.2 c) k_17 vE (xTerms_digitsOf_S17 v1 v2 v3 c) := lpk_succ (s := (v1, v2, v3)) h
    conv at h => arg 4; unfold xTerms_digitsOf_S17
    refine j_iload_n (pc := 17) hX dX6_digitsOf_17 rfl rfl ?_
    refine j_bipush (pc := 18) (v := (10 : Int32)) hX dX6_digitsOf_18 (by decide) ?_
    refine j_icmp_ge (pc := 20) (tgt := 41) hX dX6_digitsOf_20 (by decide) (fun z => ?_) (fun z => ?_)
    · replace h := lq_t z h
      refine j_iload_n (pc := 41) hX dX6_digitsOf_41 rfl rfl ?_
      replace h := lq_r h
      replace h := Option.some.inj h
      subst h
      exact j_iret (pc := 42) hX hE rfl rfl dX6_digitsOf_42 (Nat.le_refl 0) (Nat.le_refl 0) ⟨rfl, rfl, rfl⟩
    · replace h := lq_f z h
      refine j_iload_n (pc := 23) hX dX6_digitsOf_23 rfl rfl ?_
      refine j_if_eq (pc := 24) (tgt := 41) hX dX6_digitsOf_24 (by decide) (fun z => ?_) (fun z => ?_)
      · replace h := lq_t z h
        refine j_iload_n (pc := 41) hX dX6_digitsOf_41 rfl rfl ?_
        replace h := lq_r h
        replace h := Option.some.inj h
        subst h
        exact j_iret (pc := 42) hX hE rfl rfl dX6_digitsOf_42 (Nat.le_refl 0) (Nat.le_refl 0) ⟨rfl, rfl, rfl⟩
      · replace h := lq_f z h
        refine j_iload_n (pc := 27) hX dX6_digitsOf_27 rfl rfl ?_
        refine j_bipush (pc := 28) (v := (10 : Int32)) hX dX6_digitsOf_28 (by decide) ?_
        obtain ⟨hg, h⟩ := lq_gd h
        refine j_idiv (pc := 30) hX dX6_digitsOf_30 (nz32_ne hg) ?_
        refine j_istore_n (pc := 31) hX dX6_digitsOf_31 rfl (by decide) (by decide) ?_
        refine j_iinc (pc := 32) hX dX6_digitsOf_32 rfl (v := (v1 + (1 : Int32))) rfl (by decide) (by decide) ?_
        refine j_iinc (pc := 35) hX dX6_digitsOf_35 rfl (v := (v3 + (1 : Int32))) rfl (by decide) (by decide) ?_
        refine j_goto (pc := 38) (tgt := 17) hX dX6_digitsOf_38 (by decide) ?_
        refine j_sub (lv' := [(1, .int (v1 + (1 : Int32))), (2, .int (v2 / (10 : Int32))), (3, .int (v3 + (1 : Int32)))]) ⟨rfl, rfl, rfl, trivial⟩ ?_
        exact ih_17 _ _ _ (lq_l h)
set_option maxHeartbeats 4000000 in
set_option maxRecDepth 100000 in
theorem t_xTerms_digitsOf {l : Launch} {D : va_G} {G : Nat → ClassId} {d : Nat} (hdp : 0 ≤ d) {c r : jS} {a0 : Int32} {vE : Int32} (h : xTerms_digitsOf c a0 = some vE) : jC l D G d M_xTerms_digitsOf [.int a0] (jmix c r) (some (.int vE)) (jmix c r) := by
  refine jM_of rfl (Nat.le_of_ble_eq_true rfl) ?_
  intro X hl hD hG _ _ hX hE _
  subst hl hD hG
  unfold xTerms_digitsOf at h
  show J X 0 0 jN (jE (jmix c r)) [(0, .int a0)] [] 0
  refine j_iload_n (pc := 0) hX dX6_digitsOf_0 rfl rfl ?_
  refine j_if_ge (pc := 1) (tgt := 8) hX dX6_digitsOf_1 (by decide) (fun z => ?_) (fun z => ?_)
  · replace h := ite_t z h
    refine j_iconst (pc := 8) (v := (1 : Int32)) hX dX6_digitsOf_8 (by decide) ?_
    refine j_istore_n (pc := 9) hX dX6_digitsOf_9 rfl (by decide) (by decide) ?_
    refine j_iload_n (pc := 10) hX dX6_digitsOf_10 rfl rfl ?_
    refine j_bipush (pc := 11) (v := (10 : Int32)) hX dX6_digitsOf_11 (by decide) ?_
    obtain ⟨hg, h⟩ := gd_some h
    refine j_idiv (pc := 13) hX dX6_digitsOf_13 (nz32_ne hg) ?_
    refine j_istore_n (pc := 14) hX dX6_digitsOf_14 rfl (by decide) (by decide) ?_
    refine j_iconst (pc := 15) (v := (0 : Int32)) hX dX6_digitsOf_15 (by decide) ?_
    refine j_istore_n (pc := 16) hX dX6_digitsOf_16 rfl (by decide) (by decide) ?_
    refine j_sub (lv' := [(1, .int (1 : Int32)), (2, .int (a0 / (10 : Int32))), (3, .int (0 : Int32))]) ⟨rfl, rfl, rfl, trivial⟩ ?_
    exact tl_xTerms_digitsOf_L17 hX hdp hE _ _ _ h
  · replace h := ite_f z h
    refine j_iconst (pc := 4) (v := (2 : Int32)) hX dX6_digitsOf_4 (by decide) ?_
    refine j_goto (pc := 5) (tgt := 9) hX dX6_digitsOf_5 (by decide) ?_
    refine j_istore_n (pc := 9) hX dX6_digitsOf_9 rfl (by decide) (by decide) ?_
    refine j_iload_n (pc := 10) hX dX6_digitsOf_10 rfl rfl ?_
    refine j_bipush (pc := 11) (v := (10 : Int32)) hX dX6_digitsOf_11 (by decide) ?_
    obtain ⟨hg, h⟩ := gd_some h
    refine j_idiv (pc := 13) hX dX6_digitsOf_13 (nz32_ne hg) ?_
    refine j_istore_n (pc := 14) hX dX6_digitsOf_14 rfl (by decide) (by decide) ?_
    refine j_iconst (pc := 15) (v := (0 : Int32)) hX dX6_digitsOf_15 (by decide) ?_
    refine j_istore_n (pc := 16) hX dX6_digitsOf_16 rfl (by decide) (by decide) ?_
    refine j_sub (lv' := [(1, .int (2 : Int32)), (2, .int (a0 / (10 : Int32))), (3, .int (0 : Int32))]) ⟨rfl, rfl, rfl, trivial⟩ ?_
    exact tl_xTerms_digitsOf_L17 hX hdp hE _ _ _ h

set_option maxHeartbeats 4000000 in
set_option maxRecDepth 100000 in
theorem t_xTerms_newNumber {l : Launch} {D : va_G} {G : Nat → ClassId} {d : Nat} (hdp : 3 ≤ d) {c r : jS} {a1 : Int32} {vE : Int32} {cE : jS} (h : xTerms_newNumber c a1 = some (vE, cE)) : jC l D G d M_xTerms_newNumber [.ref 5, .int a1] (jmix c r) (some (.int vE)) (jmix cE r) := by
  refine jM_of rfl (Nat.le_of_ble_eq_true rfl) ?_
  intro X hl hD hG _ _ hX hE _
  subst hl hD hG
  unfold xTerms_newNumber at h
  show J X 0 0 jN (jE (jmix c r)) [(0, .ref 5), (1, .int a1)] [] 0
  refine j_aload_n (pc := 0) hX dX6_newNumber_0 rfl rfl ?_
  refine j_iconst (pc := 1) (v := (0 : Int32)) hX dX6_newNumber_1 (by decide) ?_
  refine j_bipush (pc := 2) (v := (-2 : Int32)) hX dX6_newNumber_2 (by decide) ?_
  refine j_bipush (pc := 4) (v := (-2 : Int32)) hX dX6_newNumber_4 (by decide) ?_
  refine j_bipush (pc := 6) (v := (-2 : Int32)) hX dX6_newNumber_6 (by decide) ?_
  refine j_bipush (pc := 8) (v := (-2 : Int32)) hX dX6_newNumber_8 (by decide) ?_
  refine j_bipush (pc := 10) (v := (-2 : Int32)) hX dX6_newNumber_10 (by decide) ?_
  obtain ⟨r1, c2, h1, h⟩ := bd_some h
  refine k_callVI (pc := 12) (st := []) hX ln_6_87 dX6_newNumber_12 (t_xTerms_made (d := 2) (Nat.le_refl _) h1) rfl rfl rfl (by omega) (Nat.le_of_ble_eq_true rfl) ?_
  refine j_istore_n (pc := 15) hX dX6_newNumber_15 rfl (by decide) (by decide) ?_
  refine j_aload_n (pc := 16) hX dX6_newNumber_16 rfl rfl ?_
  refine j_iload_n (pc := 17) hX dX6_newNumber_17 rfl rfl ?_
  obtain ⟨r3, h1, h⟩ := ob_some h
  refine k_callVI (pc := 18) (st := []) hX ln_6_53 dX6_newNumber_18 (t_xTerms_has (d := 0) (Nat.le_refl _) h1) rfl rfl rfl (by omega) (Nat.le_of_ble_eq_true rfl) ?_
  refine j_if_eq (pc := 21) (tgt := 41) hX dX6_newNumber_21 (by decide) (fun z => ?_) (fun z => ?_)
  · replace h := ite_t z h
    refine j_iload_n (pc := 41) hX dX6_newNumber_41 rfl rfl ?_
    obtain ⟨h, h0⟩ := Prod.mk.inj (Option.some.inj h)
    subst h h0
    exact j_iret (pc := 42) hX hE rfl rfl dX6_newNumber_42 (Nat.le_refl 0) (Nat.le_refl 0) ⟨rfl, rfl, rfl⟩
  · replace h := ite_f z h
    refine j_aload_n (pc := 24) hX dX6_newNumber_24 rfl rfl ?_
    refine k_getR (pc := 25) (q := 7) hX fl_6_15 dX6_newNumber_25 rfl rfl ?_
    refine j_iload_n (pc := 28) hX dX6_newNumber_28 rfl rfl ?_
    refine j_iload_n (pc := 29) hX dX6_newNumber_29 rfl rfl ?_
    obtain ⟨hg, h⟩ := gd_some h
    obtain ⟨c4, hc, h⟩ := lt_some h
    refine k_iast (pc := 30) (c' := jmix c4 r) hX dX6_newNumber_30 rfl hg (jmix_xe rfl hc) ?_
    refine j_aload_n (pc := 31) hX dX6_newNumber_31 rfl rfl ?_
    refine k_getR (pc := 32) (q := 16) hX fl_6_42 dX6_newNumber_32 rfl rfl ?_
    refine j_iload_n (pc := 35) hX dX6_newNumber_35 rfl rfl ?_
    refine j_iload_n (pc := 36) hX dX6_newNumber_36 rfl rfl ?_
    obtain ⟨r5, h1, h⟩ := ob_some h
    refine k_callSI (pc := 37) (st := [.int r1, .ref 16]) hX ln_6_91 dX6_newNumber_37 (t_xTerms_digitsOf (d := 0) (Nat.le_refl _) h1) rfl rfl (by omega) (Nat.le_of_ble_eq_true rfl) ?_
    obtain ⟨hg, h⟩ := gd_some h
    obtain ⟨c6, hc, h⟩ := lt_some h
    refine k_iast (pc := 40) (c' := jmix c6 r) hX dX6_newNumber_40 rfl hg (jmix_xe rfl hc) ?_
    refine j_iload_n (pc := 41) hX dX6_newNumber_41 rfl rfl ?_
    obtain ⟨h, h0⟩ := Prod.mk.inj (Option.some.inj h)
    subst h h0
    exact j_iret (pc := 42) hX hE rfl rfl dX6_newNumber_42 (Nat.le_refl 0) (Nat.le_refl 0) ⟨rfl, rfl, rfl⟩

set_option maxHeartbeats 4000000 in
set_option maxRecDepth 100000 in
theorem tl_xReader_numberHere_L77 {X : jX} {d : Nat} {r : jS} {vE : Int32} {cE : jS} (hX : jOk X RX4 cX4_numberHere 4 d) (hdp : 4 ≤ d) (hE : jEnd X (some .int) 0 0 (fun r0 n0 h0 => r0 = (some (.int vE)) ∧ n0 = jN ∧ h0 = jE (jmix cE r))) : ∀ (v1 : Int32) (v2 : Int64) (c : jS), xReader_numberHere_L77 v1 v2 c = some (vE, cE) → J X 0 0 jN (jE (jmix c r)) [(0, .ref 28), (1, .int v1), (2, .long v2)] [] 77 := by
  intro v1 v2 c h
  unfold xReader_numberHere_L77 at h
  replace h := lp_some h
  obtain ⟨k_77, h⟩ := h
  induction k_77 generalizing v1 v2 c with
  | zero => cases h
  | succ k_77 ih_77 =>
    replace h : lq (fun s : (Int32 × Int64 × jS) => xReader_numberHere_S77 s.1 s.2.1 s.2.2) k_77 (vE, cE) (xReader_numberHere_S77 v1 v2 c) := lpk_succ (s := (v1, v2, c)) h
    conv at h => arg 4; unfold xReader_numberHere_S77
    refine j_aload_n (pc := 77) hX dX4_numberHere_77 rfl rfl ?_
    refine k_getI (pc := 78) (x := (c 28 4)) hX fl_4_27 dX4_numberHere_78 rfl rfl rfl ?_
    refine j_aload_n (pc := 81) hX dX4_numberHere_81 rfl rfl ?_
    refine k_getI (pc := 82) (x := (c 28 3)) hX fl_4_23 dX4_numberHere_82 rfl rfl rfl ?_
    refine j_icmp_ge (pc := 85) (tgt := 141) hX dX4_numberHere_85 (by decide) (fun z => ?_) (fun z => ?_)
    · replace h := lq_t z h
      refine j_aload_n (pc := 141) hX dX4_numberHere_141 rfl rfl ?_
      refine k_getR (pc := 142) (q := 5) hX fl_4_19 dX4_numberHere_142 rfl rfl ?_
      refine j_lload_n (pc := 145) hX dX4_numberHere_145 rfl rfl ?_
      refine j_l2i (pc := 146) hX dX4_numberHere_146 ?_
      obtain ⟨r3, c4, h1, h⟩ := lq_bd h
      refine k_callVI (pc := 147) (st := []) hX ln_4_96 dX4_numberHere_147 (t_xTerms_newNumber (d := 3) (Nat.le_refl _) h1) rfl rfl rfl (by omega) (Nat.le_of_ble_eq_true rfl) ?_
      replace h := lq_r h
      obtain ⟨h, h0⟩ := Prod.mk.inj (Option.some.inj h)
      subst h h0
      exact j_iret (pc := 150) hX hE rfl rfl dX4_numberHere_150 (Nat.le_refl 0) (Nat.le_refl 0) ⟨rfl, rfl, rfl⟩
    · replace h := lq_f z h
      refine j_aload_n (pc := 88) hX dX4_numberHere_88 rfl rfl ?_
      obtain ⟨r5, h1, h⟩ := lq_ob h
      refine k_callVI (pc := 89) (st := []) hX ln_4_62 dX4_numberHere_89 (t_xReader_byteHere (d := 0) (Nat.le_refl _) h1) rfl rfl rfl (by omega) (Nat.le_of_ble_eq_true rfl) ?_
      obtain ⟨r6, h1, h⟩ := lq_ob h
      refine k_callSI (pc := 92) (st := []) hX ln_4_93 dX4_numberHere_92 (t_xReader_isDigit (d := 0) (Nat.le_refl _) h1) rfl rfl (by omega) (Nat.le_of_ble_eq_true rfl) ?_
      refine j_if_eq (pc := 95) (tgt := 141) hX dX4_numberHere_95 (by decide) (fun z => ?_) (fun z => ?_)
      · replace h := lq_t z h
        refine j_aload_n (pc := 141) hX dX4_numberHere_141 rfl rfl ?_
        refine k_getR (pc := 142) (q := 5) hX fl_4_19 dX4_numberHere_142 rfl rfl ?_
        refine j_lload_n (pc := 145) hX dX4_numberHere_145 rfl rfl ?_
        refine j_l2i (pc := 146) hX dX4_numberHere_146 ?_
        obtain ⟨r7, c8, h1, h⟩ := lq_bd h
        refine k_callVI (pc := 147) (st := []) hX ln_4_96 dX4_numberHere_147 (t_xTerms_newNumber (d := 3) (Nat.le_refl _) h1) rfl rfl rfl (by omega) (Nat.le_of_ble_eq_true rfl) ?_
        replace h := lq_r h
        obtain ⟨h, h0⟩ := Prod.mk.inj (Option.some.inj h)
        subst h h0
        exact j_iret (pc := 150) hX hE rfl rfl dX4_numberHere_150 (Nat.le_refl 0) (Nat.le_refl 0) ⟨rfl, rfl, rfl⟩
      · replace h := lq_f z h
        refine j_lload_n (pc := 98) hX dX4_numberHere_98 rfl rfl ?_
        refine j_ldc2 (pc := 99) (v := (10 : Int64)) hX dX4_numberHere_99 (mr_40 _ (List.mem_of_getElem? (i := 10) rfl)) ?_
        refine j_lmul (pc := 102) hX dX4_numberHere_102 ?_
        refine j_iload_n (pc := 103) hX dX4_numberHere_103 rfl rfl ?_
        refine j_aload_n (pc := 104) hX dX4_numberHere_104 rfl rfl ?_
        obtain ⟨r9, h1, h⟩ := lq_ob h
        refine k_callVI (pc := 105) (st := [.int v1, .long (v2 * (10 : Int64))]) hX ln_4_62 dX4_numberHere_105 (t_xReader_byteHere (d := 0) (Nat.le_refl _) h1) rfl rfl rfl (by omega) (Nat.le_of_ble_eq_true rfl) ?_
        refine j_bipush (pc := 108) (v := (48 : Int32)) hX dX4_numberHere_108 (by decide) ?_
        refine j_isub (pc := 110) hX dX4_numberHere_110 ?_
        refine j_imul (pc := 111) hX dX4_numberHere_111 ?_
        refine j_i2l (pc := 112) hX dX4_numberHere_112 ?_
        refine j_ladd (pc := 113) hX dX4_numberHere_113 ?_
        refine j_lstore_n (pc := 114) hX dX4_numberHere_114 rfl (by decide) (by decide) ?_
        refine j_lload_n (pc := 115) hX dX4_numberHere_115 rfl rfl ?_
        refine j_lload_n (pc := 116) hX dX4_numberHere_116 rfl rfl ?_
        refine j_l2i (pc := 117) hX dX4_numberHere_117 ?_
        refine j_i2l (pc := 118) hX dX4_numberHere_118 ?_
        refine j_lcmp (pc := 119) hX dX4_numberHere_119 ?_
        refine j_if_eq (pc := 120) (tgt := 128) hX dX4_numberHere_120 (by decide) (fun z => ?_) (fun z => ?_)
        · replace h := lq_t z h
          refine j_aload_n (pc := 128) hX dX4_numberHere_128 rfl rfl ?_
          refine j_dup (pc := 129) hX dX4_numberHere_129 rfl ?_
          refine k_getI (pc := 130) (x := (c 28 4)) hX fl_4_27 dX4_numberHere_130 rfl rfl rfl ?_
          refine j_iconst (pc := 133) (v := (1 : Int32)) hX dX4_numberHere_133 (by decide) ?_
          refine j_iadd (pc := 134) hX dX4_numberHere_134 ?_
          obtain ⟨c10, hc, h⟩ := lq_lt h
          refine k_putI (pc := 135) (c' := jmix c10 r) hX pfl_4_27 dX4_numberHere_135 rfl rfl (fun _ => ⟨rfl, rfl⟩) (jmix_xe rfl hc) ?_
          refine j_goto (pc := 138) (tgt := 77) hX dX4_numberHere_138 (by decide) ?_
          refine j_sub (lv' := [(0, .ref 28), (1, .int v1), (2, .long ((v2 * (10 : Int64)) + (v1 * (r9 - (48 : Int32))).toInt64))]) ⟨rfl, rfl, rfl, trivial⟩ ?_
          exact ih_77 _ _ _ (lq_l h)
        · replace h := lq_f z h
          refine j_aload_n (pc := 123) hX dX4_numberHere_123 rfl rfl ?_
          obtain ⟨r11, h1, h⟩ := lq_ob h
          refine k_callVI (pc := 124) (st := []) hX ln_4_55 dX4_numberHere_124 (t_xReader_wrongHere (d := 0) (Nat.le_refl _) h1) rfl rfl rfl (by omega) (Nat.le_of_ble_eq_true rfl) ?_
          replace h := lq_r h
          obtain ⟨h, h0⟩ := Prod.mk.inj (Option.some.inj h)
          subst h h0
          exact j_iret (pc := 127) hX hE rfl rfl dX4_numberHere_127 (Nat.le_refl 0) (Nat.le_refl 0) ⟨rfl, rfl, rfl⟩
set_option maxHeartbeats 4000000 in
set_option maxRecDepth 100000 in
theorem tj_xReader_numberHere_P47 {X : jX} {d : Nat} {r : jS} {vE : Int32} {cE : jS} (hX : jOk X RX4 cX4_numberHere 4 d) (hdp : 4 ≤ d) (hE : jEnd X (some .int) 0 0 (fun r0 n0 h0 => r0 = (some (.int vE)) ∧ n0 = jN ∧ h0 = jE (jmix cE r))) : ∀ (v1 : Int32) (c : jS), xReader_numberHere_P47 v1 c = some (vE, cE) → J X 0 0 jN (jE (jmix c r)) [(0, .ref 28), (1, .int v1)] [] 47 := by
  intro v1 c h
  unfold xReader_numberHere_P47 at h
  refine j_aload_n (pc := 47) hX dX4_numberHere_47 rfl rfl ?_
  obtain ⟨r2, h1, h⟩ := ob_some h
  refine k_callVI (pc := 48) (st := []) hX ln_4_62 dX4_numberHere_48 (t_xReader_byteHere (d := 0) (Nat.le_refl _) h1) rfl rfl rfl (by omega) (Nat.le_of_ble_eq_true rfl) ?_
  refine j_bipush (pc := 51) (v := (48 : Int32)) hX dX4_numberHere_51 (by decide) ?_
  refine j_icmp_ne (pc := 53) (tgt := 75) hX dX4_numberHere_53 (by decide) (fun z => ?_) (fun z => ?_)
  · replace h := ite_f z h
    refine j_lconst (pc := 75) (v := (0 : Int64)) hX dX4_numberHere_75 (by decide) ?_
    refine j_lstore_n (pc := 76) hX dX4_numberHere_76 rfl (by decide) (by decide) ?_
    refine j_sub (lv' := [(0, .ref 28), (1, .int v1), (2, .long (0 : Int64))]) ⟨rfl, rfl, rfl, trivial⟩ ?_
    exact tl_xReader_numberHere_L77 hX hdp hE _ _ _ h
  · replace h := ite_t z h
    refine j_aload_n (pc := 56) hX dX4_numberHere_56 rfl rfl ?_
    refine j_dup (pc := 57) hX dX4_numberHere_57 rfl ?_
    refine k_getI (pc := 58) (x := (c 28 4)) hX fl_4_27 dX4_numberHere_58 rfl rfl rfl ?_
    refine j_iconst (pc := 61) (v := (1 : Int32)) hX dX4_numberHere_61 (by decide) ?_
    refine j_iadd (pc := 62) hX dX4_numberHere_62 ?_
    obtain ⟨c12, hc, h⟩ := lt_some h
    refine k_putI (pc := 63) (c' := jmix c12 r) hX pfl_4_27 dX4_numberHere_63 rfl rfl (fun _ => ⟨rfl, rfl⟩) (jmix_xe rfl hc) ?_
    refine j_aload_n (pc := 66) hX dX4_numberHere_66 rfl rfl ?_
    refine k_getR (pc := 67) (q := 5) hX fl_4_19 dX4_numberHere_67 rfl rfl ?_
    refine j_iconst (pc := 70) (v := (0 : Int32)) hX dX4_numberHere_70 (by decide) ?_
    obtain ⟨r13, c14, h1, h⟩ := bd_some h
    refine k_callVI (pc := 71) (st := []) hX ln_4_96 dX4_numberHere_71 (t_xTerms_newNumber (d := 3) (Nat.le_refl _) h1) rfl rfl rfl (by omega) (Nat.le_of_ble_eq_true rfl) ?_
    obtain ⟨h, h0⟩ := Prod.mk.inj (Option.some.inj h)
    subst h h0
    exact j_iret (pc := 74) hX hE rfl rfl dX4_numberHere_74 (Nat.le_refl 0) (Nat.le_refl 0) ⟨rfl, rfl, rfl⟩
set_option maxHeartbeats 4000000 in
set_option maxRecDepth 100000 in
theorem t_xReader_numberHere {l : Launch} {D : va_G} {G : Nat → ClassId} {d : Nat} (hdp : 4 ≤ d) {c r : jS} {vE : Int32} {cE : jS} (h : xReader_numberHere c = some (vE, cE)) : jC l D G d M_xReader_numberHere [.ref 28] (jmix c r) (some (.int vE)) (jmix cE r) := by
  refine jM_of rfl (Nat.le_of_ble_eq_true rfl) ?_
  intro X hl hD hG _ _ hX hE _
  subst hl hD hG
  unfold xReader_numberHere at h
  show J X 0 0 jN (jE (jmix c r)) [(0, .ref 28)] [] 0
  refine j_iconst (pc := 0) (v := (1 : Int32)) hX dX4_numberHere_0 (by decide) ?_
  refine j_istore_n (pc := 1) hX dX4_numberHere_1 rfl (by decide) (by decide) ?_
  refine j_aload_n (pc := 2) hX dX4_numberHere_2 rfl rfl ?_
  obtain ⟨r1, h1, h⟩ := ob_some h
  refine k_callVI (pc := 3) (st := []) hX ln_4_62 dX4_numberHere_3 (t_xReader_byteHere (d := 0) (Nat.le_refl _) h1) rfl rfl rfl (by omega) (Nat.le_of_ble_eq_true rfl) ?_
  refine j_bipush (pc := 6) (v := (45 : Int32)) hX dX4_numberHere_6 (by decide) ?_
  refine j_icmp_ne (pc := 8) (tgt := 47) hX dX4_numberHere_8 (by decide) (fun z => ?_) (fun z => ?_)
  · replace h := ite_f z h
    refine j_sub (lv' := [(0, .ref 28), (1, .int (1 : Int32))]) ⟨rfl, rfl, trivial⟩ ?_
    exact tj_xReader_numberHere_P47 hX hdp hE _ _ h
  · replace h := ite_t z h
    refine j_iconst (pc := 11) (v := (-1 : Int32)) hX dX4_numberHere_11 (by decide) ?_
    refine j_istore_n (pc := 12) hX dX4_numberHere_12 rfl (by decide) (by decide) ?_
    refine j_aload_n (pc := 13) hX dX4_numberHere_13 rfl rfl ?_
    refine j_dup (pc := 14) hX dX4_numberHere_14 rfl ?_
    refine k_getI (pc := 15) (x := (c 28 4)) hX fl_4_27 dX4_numberHere_15 rfl rfl rfl ?_
    refine j_iconst (pc := 18) (v := (1 : Int32)) hX dX4_numberHere_18 (by decide) ?_
    refine j_iadd (pc := 19) hX dX4_numberHere_19 ?_
    obtain ⟨c15, hc, h⟩ := lt_some h
    refine k_putI (pc := 20) (c' := jmix c15 r) hX pfl_4_27 dX4_numberHere_20 rfl rfl (fun _ => ⟨rfl, rfl⟩) (jmix_xe rfl hc) ?_
    refine j_aload_n (pc := 23) hX dX4_numberHere_23 rfl rfl ?_
    obtain ⟨r16, h1, h⟩ := ob_some h
    refine k_callVI (pc := 24) (st := []) hX ln_4_62 dX4_numberHere_24 (t_xReader_byteHere (d := 0) (Nat.le_refl _) h1) rfl rfl rfl (by omega) (Nat.le_of_ble_eq_true rfl) ?_
    obtain ⟨r17, h1, h⟩ := ob_some h
    refine k_callSI (pc := 27) (st := []) hX ln_4_93 dX4_numberHere_27 (t_xReader_isDigit (d := 0) (Nat.le_refl _) h1) rfl rfl (by omega) (Nat.le_of_ble_eq_true rfl) ?_
    refine j_if_eq (pc := 30) (tgt := 42) hX dX4_numberHere_30 (by decide) (fun z => ?_) (fun z => ?_)
    · replace h := ite_t z h
      refine j_aload_n (pc := 42) hX dX4_numberHere_42 rfl rfl ?_
      obtain ⟨r18, h1, h⟩ := ob_some h
      refine k_callVI (pc := 43) (st := []) hX ln_4_55 dX4_numberHere_43 (t_xReader_wrongHere (d := 0) (Nat.le_refl _) h1) rfl rfl rfl (by omega) (Nat.le_of_ble_eq_true rfl) ?_
      obtain ⟨h, h0⟩ := Prod.mk.inj (Option.some.inj h)
      subst h h0
      exact j_iret (pc := 46) hX hE rfl rfl dX4_numberHere_46 (Nat.le_refl 0) (Nat.le_refl 0) ⟨rfl, rfl, rfl⟩
    · replace h := ite_f z h
      refine j_aload_n (pc := 33) hX dX4_numberHere_33 rfl rfl ?_
      obtain ⟨r19, h1, h⟩ := ob_some h
      refine k_callVI (pc := 34) (st := []) hX ln_4_62 dX4_numberHere_34 (t_xReader_byteHere (d := 0) (Nat.le_refl _) h1) rfl rfl rfl (by omega) (Nat.le_of_ble_eq_true rfl) ?_
      refine j_bipush (pc := 37) (v := (48 : Int32)) hX dX4_numberHere_37 (by decide) ?_
      refine j_icmp_ne (pc := 39) (tgt := 47) hX dX4_numberHere_39 (by decide) (fun z => ?_) (fun z => ?_)
      · replace h := ite_f z h
        refine j_sub (lv' := [(0, .ref 28), (1, .int (-1 : Int32))]) ⟨rfl, rfl, trivial⟩ ?_
        exact tj_xReader_numberHere_P47 hX hdp hE _ _ h
      · replace h := ite_t z h
        refine j_aload_n (pc := 42) hX dX4_numberHere_42 rfl rfl ?_
        obtain ⟨r20, h1, h⟩ := ob_some h
        refine k_callVI (pc := 43) (st := []) hX ln_4_55 dX4_numberHere_43 (t_xReader_wrongHere (d := 0) (Nat.le_refl _) h1) rfl rfl rfl (by omega) (Nat.le_of_ble_eq_true rfl) ?_
        obtain ⟨h, h0⟩ := Prod.mk.inj (Option.some.inj h)
        subst h h0
        exact j_iret (pc := 46) hX hE rfl rfl dX4_numberHere_46 (Nat.le_refl 0) (Nat.le_refl 0) ⟨rfl, rfl, rfl⟩

