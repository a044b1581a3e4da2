set_option maxHeartbeats 4000000 in
set_option maxRecDepth 100000 in
theorem t_xc_drop {l : Launch} {D : va_G} {G : Nat → ClassId} {d : Nat} (hdp : 135 ≤ d) {c r : jS} {a1 : Int32} {vE : Int32} {cE : jS} (h : xc_drop c a1 = some (vE, cE)) : jC l D G d M_xc_drop [.ref 0, .int a1] (jmix c r) (some (.int vE)) (jmix cE r) := by
  refine jM_of rfl (Nat.le_of_ble_eq_true rfl) ?_
  intro X hl hD hG _ _ hX hE _
  subst hl hD hG
  unfold xc_drop at h
  show J X 0 0 jN (jE (jmix c r)) [(0, .ref 0), (1, .int a1)] [] 0
  refine j_aload_n (pc := 0) hX dX9_drop_0 rfl rfl ?_
  refine k_getR (pc := 1) (q := 5) hX fl_9_21 dX9_drop_1 rfl rfl ?_
  refine j_iload_n (pc := 4) hX dX9_drop_4 rfl rfl ?_
  obtain ⟨r1, h1, h⟩ := ob_some h
  refine k_callVI (pc := 5) (st := []) hX ln_9_112 dX9_drop_5 (t_xTerms_has (d := 0) (Nat.le_refl _) h1) rfl rfl rfl (by omega) (Nat.le_of_ble_eq_true rfl) ?_
  refine j_if_ne (pc := 8) (tgt := 13) hX dX9_drop_8 (by decide) (fun z => ?_) (fun z => ?_)
  · replace h := ite_f z h
    refine j_aload_n (pc := 13) hX dX9_drop_13 rfl rfl ?_
    refine k_getR (pc := 14) (q := 5) hX fl_9_21 dX9_drop_14 rfl rfl ?_
    obtain ⟨r2, h1, h⟩ := ob_some h
    refine k_callVI (pc := 17) (st := []) hX ln_9_173 dX9_drop_17 (t_xTerms_total (d := 0) (Nat.le_refl _) h1) rfl rfl rfl (by omega) (Nat.le_of_ble_eq_true rfl) ?_
    refine j_istore_n (pc := 20) hX dX9_drop_20 rfl (by decide) (by decide) ?_
    refine j_aload_n (pc := 21) hX dX9_drop_21 rfl rfl ?_
    refine j_aload_n (pc := 22) hX dX9_drop_22 rfl rfl ?_
    refine k_getR (pc := 23) (q := 25) hX fl_9_62 dX9_drop_23 rfl rfl ?_
    refine j_iload_n (pc := 26) hX dX9_drop_26 rfl rfl ?_
    obtain ⟨r3, c4, h1, h⟩ := bd_some h
    refine k_callVI (pc := 27) (st := [.ref 0]) hX ln_9_185 dX9_drop_27 (t_xDropper_withoutLets h1) rfl rfl rfl (by omega) (Nat.le_of_ble_eq_true rfl) ?_
    refine j_iload_n (pc := 30) hX dX9_drop_30 rfl rfl ?_
    obtain ⟨r5, c6, h1, h⟩ := bd_some h
    refine k_callVI (pc := 31) (st := []) hX ln_9_179 dX9_drop_31 (t_xc_keptOrUndone (d := 1) (Nat.le_refl _) h1) rfl rfl rfl (by omega) (Nat.le_of_ble_eq_true rfl) ?_
    obtain ⟨h, h0⟩ := Prod.mk.inj (Option.some.inj h)
    subst h h0
    exact j_iret (pc := 34) hX hE rfl rfl dX9_drop_34 (Nat.le_refl 0) (Nat.le_refl 0) ⟨rfl, rfl, rfl⟩
  · replace h := ite_t z h
    refine j_iconst (pc := 11) (v := (-1 : Int32)) hX dX9_drop_11 (by decide) ?_
    obtain ⟨h, h0⟩ := Prod.mk.inj (Option.some.inj h)
    subst h h0
    exact j_iret (pc := 12) hX hE rfl rfl dX9_drop_12 (Nat.le_refl 0) (Nat.le_refl 0) ⟨rfl, rfl, rfl⟩

set_option maxHeartbeats 4000000 in
set_option maxRecDepth 100000 in
theorem t_xc_print {l : Launch} {D : va_G} {G : Nat → ClassId} {d : Nat} (hdp : 265 ≤ d) {c r : jS} {a1 : Int32} {vE : Int32} {cE : jS} (h : xc_print c a1 = some (vE, cE)) : jC l D G d M_xc_print [.ref 0, .int a1] (jmix c r) (some (.int vE)) (jmix cE r) := by
  refine jM_of rfl (Nat.le_of_ble_eq_true rfl) ?_
  intro X hl hD hG _ _ hX hE _
  subst hl hD hG
  unfold xc_print at h
  show J X 0 0 jN (jE (jmix c r)) [(0, .ref 0), (1, .int a1)] [] 0
  refine j_aload_n (pc := 0) hX dX9_print_0 rfl rfl ?_
  refine k_getR (pc := 1) (q := 5) hX fl_9_21 dX9_print_1 rfl rfl ?_
  refine j_iload_n (pc := 4) hX dX9_print_4 rfl rfl ?_
  obtain ⟨r1, h1, h⟩ := ob_some h
  refine k_callVI (pc := 5) (st := []) hX ln_9_112 dX9_print_5 (t_xTerms_has (d := 0) (Nat.le_refl _) h1) rfl rfl rfl (by omega) (Nat.le_of_ble_eq_true rfl) ?_
  refine j_if_eq (pc := 8) (tgt := 22) hX dX9_print_8 (by decide) (fun z => ?_) (fun z => ?_)
  · replace h := ite_t z h
    refine j_iconst (pc := 22) (v := (-1 : Int32)) hX dX9_print_22 (by decide) ?_
    obtain ⟨h, h0⟩ := Prod.mk.inj (Option.some.inj h)
    subst h h0
    exact j_iret (pc := 23) hX hE rfl rfl dX9_print_23 (Nat.le_refl 0) (Nat.le_refl 0) ⟨rfl, rfl, rfl⟩
  · replace h := ite_f z h
    refine j_aload_n (pc := 11) hX dX9_print_11 rfl rfl ?_
    refine k_getR (pc := 12) (q := 26) hX fl_9_69 dX9_print_12 rfl rfl ?_
    refine j_iload_n (pc := 15) hX dX9_print_15 rfl rfl ?_
    obtain ⟨r2, c3, h1, h⟩ := bd_some h
    refine k_callVI (pc := 16) (st := []) hX ln_9_188 dX9_print_16 (t_xPrinter_show (d := 264) (Nat.le_refl _) h1) rfl rfl rfl (by omega) (Nat.le_of_ble_eq_true rfl) ?_
    refine j_goto (pc := 19) (tgt := 23) hX dX9_print_19 (by decide) ?_
    obtain ⟨h, h0⟩ := Prod.mk.inj (Option.some.inj h)
    subst h h0
    exact j_iret (pc := 23) hX hE rfl rfl dX9_print_23 (Nat.le_refl 0) (Nat.le_refl 0) ⟨rfl, rfl, rfl⟩

set_option maxHeartbeats 4000000 in
set_option maxRecDepth 100000 in
theorem t_xc_at {l : Launch} {D : va_G} {G : Nat → ClassId} {d : Nat} (hdp : 1 ≤ d) {c r : jS} {a1 : Int32} {vE : Int32} (h : xc_at c a1 = some vE) : jC l D G d M_xc_at [.ref 0, .int a1] (jmix c r) (some (.int vE)) (jmix c r) := by
  refine jM_of rfl (Nat.le_of_ble_eq_true rfl) ?_
  intro X hl hD hG _ _ hX hE _
  subst hl hD hG
  unfold xc_at at h
  show J X 0 0 jN (jE (jmix c r)) [(0, .ref 0), (1, .int a1)] [] 0
  refine j_aload_n (pc := 0) hX dX9_at_0 rfl rfl ?_
  refine k_getR (pc := 1) (q := 26) hX fl_9_69 dX9_at_1 rfl rfl ?_
  refine j_iload_n (pc := 4) hX dX9_at_4 rfl rfl ?_
  obtain ⟨r1, h1, h⟩ := ob_some h
  refine k_callVI (pc := 5) (st := []) hX ln_9_191 dX9_at_5 (t_xPrinter_byteAt (d := 0) (Nat.le_refl _) h1) rfl rfl rfl (by omega) (Nat.le_of_ble_eq_true rfl) ?_
  replace h := Option.some.inj h
  subst h
  exact j_iret (pc := 8) hX hE rfl rfl dX9_at_8 (Nat.le_refl 0) (Nat.le_refl 0) ⟨rfl, rfl, rfl⟩

set_option maxHeartbeats 4000000 in
set_option maxRecDepth 100000 in
theorem t_xc_feed {l : Launch} {D : va_G} {G : Nat → ClassId} {d : Nat} (hdp : 2 ≤ d) {c r : jS} {a1 : Int64} {a3 : Int32} {vE : Int32} {cE : jS} (h : xc_feed c a1 a3 = some (vE, cE)) : jC l D G d M_xc_feed [.ref 0, .long a1, .int a3] (jmix c r) (some (.int vE)) (jmix cE r) := by
  refine jM_of rfl (Nat.le_of_ble_eq_true rfl) ?_
  intro X hl hD hG _ _ hX hE _
  subst hl hD hG
  unfold xc_feed at h
  show J X 0 0 jN (jE (jmix c r)) [(0, .ref 0), (1, .long a1), (3, .int a3)] [] 0
  refine j_aload_n (pc := 0) hX dX9_feed_0 rfl rfl ?_
  refine k_getR (pc := 1) (q := 28) hX fl_9_76 dX9_feed_1 rfl rfl ?_
  refine j_lload_n (pc := 4) hX dX9_feed_4 rfl rfl ?_
  refine j_iload_n (pc := 5) hX dX9_feed_5 rfl rfl ?_
  obtain ⟨r1, c2, h1, h⟩ := bd_some h
  refine k_callVI (pc := 6) (st := []) hX ln_9_194 dX9_feed_6 (t_xReader_addBytes (d := 1) (Nat.le_refl _) h1) rfl rfl rfl (by omega) (Nat.le_of_ble_eq_true rfl) ?_
  obtain ⟨h, h0⟩ := Prod.mk.inj (Option.some.inj h)
  subst h h0
  exact j_iret (pc := 9) hX hE rfl rfl dX9_feed_9 (Nat.le_refl 0) (Nat.le_refl 0) ⟨rfl, rfl, rfl⟩

set_option maxHeartbeats 4000000 in
set_option maxRecDepth 100000 in
theorem t_xc_copy {l : Launch} {D : va_G} {G : Nat → ClassId} {d : Nat} (hdp : 2 ≤ d) {c r : jS} {vE : Int32} {cE : jS} (h : xc_copy c = some (vE, cE)) : jC l D G d M_xc_copy [.ref 0] (jmix c r) (some (.int vE)) (jmix cE r) := by
  refine jM_of rfl (Nat.le_of_ble_eq_true rfl) ?_
  intro X hl hD hG _ _ hX hE _
  subst hl hD hG
  unfold xc_copy at h
  show J X 0 0 jN (jE (jmix c r)) [(0, .ref 0)] [] 0
  refine j_aload_n (pc := 0) hX dX9_copy_0 rfl rfl ?_
  refine k_getR (pc := 1) (q := 28) hX fl_9_76 dX9_copy_1 rfl rfl ?_
  refine j_aload_n (pc := 4) hX dX9_copy_4 rfl rfl ?_
  refine k_getR (pc := 5) (q := 26) hX fl_9_69 dX9_copy_5 rfl rfl ?_
  obtain ⟨r1, c2, h1, h⟩ := bd_some h
  refine k_callVI (pc := 8) (st := []) hX ln_9_198 dX9_copy_8 (t_xReader_takeFrom (d := 1) (Nat.le_refl _) h1) rfl rfl rfl (by omega) (Nat.le_of_ble_eq_true rfl) ?_
  obtain ⟨h, h0⟩ := Prod.mk.inj (Option.some.inj h)
  subst h h0
  exact j_iret (pc := 11) hX hE rfl rfl dX9_copy_11 (Nat.le_refl 0) (Nat.le_refl 0) ⟨rfl, rfl, rfl⟩

set_option maxHeartbeats 4000000 in
set_option maxRecDepth 100000 in
theorem t_xc_read {l : Launch} {D : va_G} {G : Nat → ClassId} {d : Nat} (hdp : 266 ≤ d) {c r : jS} {vE : Int32} {cE : jS} (h : xc_read c = some (vE, cE)) : jC l D G d M_xc_read [.ref 0] (jmix c r) (some (.int vE)) (jmix cE r) := by
  refine jM_of rfl (Nat.le_of_ble_eq_true rfl) ?_
  intro X hl hD hG _ _ hX hE _
  subst hl hD hG
  unfold xc_read at h
  show J X 0 0 jN (jE (jmix c r)) [(0, .ref 0)] [] 0
  refine j_aload_n (pc := 0) hX dX9_read_0 rfl rfl ?_
  refine k_getR (pc := 1) (q := 28) hX fl_9_76 dX9_read_1 rfl rfl ?_
  obtain ⟨r1, c2, h1, h⟩ := bd_some h
  refine k_callVI (pc := 4) (st := []) hX ln_9_202 dX9_read_4 (t_xReader_wholeTape (d := 265) (Nat.le_refl _) h1) rfl rfl rfl (by omega) (Nat.le_of_ble_eq_true rfl) ?_
  obtain ⟨h, h0⟩ := Prod.mk.inj (Option.some.inj h)
  subst h h0
  exact j_iret (pc := 7) hX hE rfl rfl dX9_read_7 (Nat.le_refl 0) (Nat.le_refl 0) ⟨rfl, rfl, rfl⟩

set_option maxHeartbeats 4000000 in
set_option maxRecDepth 100000 in
theorem t_xc_count {l : Launch} {D : va_G} {G : Nat → ClassId} {d : Nat} (hdp : 1 ≤ d) {c r : jS} {a1 : Int32} {vE : Int32} (h : xc_count c a1 = some vE) : jC l D G d M_xc_count [.ref 0, .int a1] (jmix c r) (some (.int vE)) (jmix c r) := by
  refine jM_of rfl (Nat.le_of_ble_eq_true rfl) ?_
  intro X hl hD hG _ _ hX hE _
  subst hl hD hG
  unfold xc_count at h
  show J X 0 0 jN (jE (jmix c r)) [(0, .ref 0), (1, .int a1)] [] 0
  refine j_iload_n (pc := 0) hX dX9_count_0 rfl rfl ?_
  by_cases z0 : a1 = 0
  · replace h := ite_t z0 h
    refine j_tabEq (pc := 1) (tgt := 32) 0 hX dX9_count_1 z0 (by decide) (by decide) rfl (by decide) ?_
    refine j_aload_n (pc := 32) hX dX9_count_32 rfl rfl ?_
    refine k_getR (pc := 33) (q := 5) hX fl_9_21 dX9_count_33 rfl rfl ?_
    obtain ⟨r1, h1, h⟩ := ob_some h
    refine k_callVI (pc := 36) (st := []) hX ln_9_173 dX9_count_36 (t_xTerms_total (d := 0) (Nat.le_refl _) h1) rfl rfl rfl (by omega) (Nat.le_of_ble_eq_true rfl) ?_
    replace h := Option.some.inj h
    subst h
    exact j_iret (pc := 39) hX hE rfl rfl dX9_count_39 (Nat.le_refl 0) (Nat.le_refl 0) ⟨rfl, rfl, rfl⟩
  replace h := ite_f z0 h
  by_cases z1 : a1 = 1
  · replace h := ite_t z1 h
    refine j_tabEq (pc := 1) (tgt := 40) 1 hX dX9_count_1 z1 (by decide) (by decide) rfl (by decide) ?_
    refine j_aload_n (pc := 40) hX dX9_count_40 rfl rfl ?_
    refine k_getR (pc := 41) (q := 1) hX fl_9_10 dX9_count_41 rfl rfl ?_
    obtain ⟨r2, h1, h⟩ := ob_some h
    refine k_callVI (pc := 44) (st := []) hX ln_9_205 dX9_count_44 (t_xTypes_total (d := 0) (Nat.le_refl _) h1) rfl rfl rfl (by omega) (Nat.le_of_ble_eq_true rfl) ?_
    replace h := Option.some.inj h
    subst h
    exact j_iret (pc := 47) hX hE rfl rfl dX9_count_47 (Nat.le_refl 0) (Nat.le_refl 0) ⟨rfl, rfl, rfl⟩
  replace h := ite_f z1 h
  by_cases z2 : a1 = 2
  · replace h := ite_t z2 h
    refine j_tabEq (pc := 1) (tgt := 48) 2 hX dX9_count_1 z2 (by decide) (by decide) rfl (by decide) ?_
    refine j_aload_n (pc := 48) hX dX9_count_48 rfl rfl ?_
    refine k_getR (pc := 49) (q := 28) hX fl_9_76 dX9_count_49 rfl rfl ?_
    obtain ⟨r3, h1, h⟩ := ob_some h
    refine k_callVI (pc := 52) (st := []) hX ln_9_206 dX9_count_52 (t_xReader_tapeLength (d := 0) (Nat.le_refl _) h1) rfl rfl rfl (by omega) (Nat.le_of_ble_eq_true rfl) ?_
    replace h := Option.some.inj h
    subst h
    exact j_iret (pc := 55) hX hE rfl rfl dX9_count_55 (Nat.le_refl 0) (Nat.le_refl 0) ⟨rfl, rfl, rfl⟩
  replace h := ite_f z2 h
  by_cases z3 : a1 = 3
  · replace h := ite_t z3 h
    refine j_tabEq (pc := 1) (tgt := 56) 3 hX dX9_count_1 z3 (by decide) (by decide) rfl (by decide) ?_
    refine j_aload_n (pc := 56) hX dX9_count_56 rfl rfl ?_
    refine k_getR (pc := 57) (q := 26) hX fl_9_69 dX9_count_57 rfl rfl ?_
    obtain ⟨r4, h1, h⟩ := ob_some h
    refine k_callVI (pc := 60) (st := []) hX ln_9_209 dX9_count_60 (t_xPrinter_printLength (d := 0) (Nat.le_refl _) h1) rfl rfl rfl (by omega) (Nat.le_of_ble_eq_true rfl) ?_
    replace h := Option.some.inj h
    subst h
    exact j_iret (pc := 63) hX hE rfl rfl dX9_count_63 (Nat.le_refl 0) (Nat.le_refl 0) ⟨rfl, rfl, rfl⟩
  replace h := ite_f z3 h
  refine j_tabOut (pc := 1) (tgt := 64) hX dX9_count_1 (by have yz0 := lv_neT (a := 0) z0 (by decide); have yz1 := lv_neT (a := 1) z1 (by decide); have yz2 := lv_neT (a := 2) z2 (by decide); have yz3 := lv_neT (a := 3) z3 (by decide); omega) (by decide) ?_
  refine j_iconst (pc := 64) (v := (-1 : Int32)) hX dX9_count_64 (by decide) ?_
  replace h := Option.some.inj h
  subst h
  exact j_iret (pc := 65) hX hE rfl rfl dX9_count_65 (Nat.le_refl 0) (Nat.le_refl 0) ⟨rfl, rfl, rfl⟩

set_option maxHeartbeats 4000000 in
set_option maxRecDepth 100000 in
theorem t_xc_clear {l : Launch} {D : va_G} {G : Nat → ClassId} {d : Nat} (hdp : 1 ≤ d) {c r : jS} {vE : Int32} {cE : jS} (h : xc_clear c = some (vE, cE)) : jC l D G d M_xc_clear [.ref 0] (jmix c r) (some (.int vE)) (jmix cE r) := by
  refine jM_of rfl (Nat.le_of_ble_eq_true rfl) ?_
  intro X hl hD hG _ _ hX hE _
  subst hl hD hG
  unfold xc_clear at h
  show J X 0 0 jN (jE (jmix c r)) [(0, .ref 0)] [] 0
  refine j_aload_n (pc := 0) hX dX9_clear_0 rfl rfl ?_
  refine k_getR (pc := 1) (q := 5) hX fl_9_21 dX9_clear_1 rfl rfl ?_
  obtain ⟨r1, h1, h⟩ := ob_some h
  refine k_callVI (pc := 4) (st := []) hX ln_9_173 dX9_clear_4 (t_xTerms_total (d := 0) (Nat.le_refl _) h1) rfl rfl rfl (by omega) (Nat.le_of_ble_eq_true rfl) ?_
  refine j_istore_n (pc := 7) hX dX9_clear_7 rfl (by decide) (by decide) ?_
  refine j_aload_n (pc := 8) hX dX9_clear_8 rfl rfl ?_
  refine k_getR (pc := 9) (q := 5) hX fl_9_21 dX9_clear_9 rfl rfl ?_
  refine j_iconst (pc := 12) (v := (0 : Int32)) hX dX9_clear_12 (by decide) ?_
  obtain ⟨_u, c2, h1, h⟩ := bd_some h
  refine k_callVV (pc := 13) (st := []) hX ln_9_212 dX9_clear_13 (t_xTerms_cutTo (d := 0) (Nat.le_refl _) h1) rfl rfl rfl (by omega) (Nat.le_of_ble_eq_true rfl) ?_
  refine j_iload_n (pc := 16) hX dX9_clear_16 rfl rfl ?_
  obtain ⟨h, h0⟩ := Prod.mk.inj (Option.some.inj h)
  subst h h0
  exact j_iret (pc := 17) hX hE rfl rfl dX9_clear_17 (Nat.le_refl 0) (Nat.le_refl 0) ⟨rfl, rfl, rfl⟩

