set_option maxHeartbeats 4000000 in
set_option maxRecDepth 100000 in
theorem t_m_in {l : Launch} {D : va_G} {G : Nat → ClassId} {d : Nat} (hdp : 0 ≤ d) {c r : jS} {a0 : Int32} {a1 : Int32} {a2 : Int32} {vE : Int32} (h : m_in c a0 a1 a2 = some vE) : jC l D G d M_m_in [.int a0, .int a1, .int a2] (jmix r c) (some (.int vE)) (jmix r c) := by
  refine jM_of rfl (Nat.le_of_ble_eq_true rfl) ?_
  intro X hl hD hG _ _ hX hE _
  subst hl hD hG
  unfold m_in at h
  show J X 0 0 jN (jE (jmix r c)) [(0, .int a0), (1, .int a1), (2, .int a2)] [] 0
  refine j_iload_n (pc := 0) hX dX10_in_0 rfl rfl ?_
  refine j_iload_n (pc := 1) hX dX10_in_1 rfl rfl ?_
  refine j_icmp_lt (pc := 2) (tgt := 14) hX dX10_in_2 (by decide) (fun z => ?_) (fun z => ?_)
  · replace h := ite_t z h
    refine j_iconst (pc := 14) (v := (0 : Int32)) hX dX10_in_14 (by decide) ?_
    replace h := Option.some.inj h
    subst h
    exact j_iret (pc := 15) hX hE rfl rfl dX10_in_15 (Nat.le_refl 0) (Nat.le_refl 0) ⟨rfl, rfl, rfl⟩
  · replace h := ite_f z h
    refine j_iload_n (pc := 5) hX dX10_in_5 rfl rfl ?_
    refine j_iload_n (pc := 6) hX dX10_in_6 rfl rfl ?_
    refine j_icmp_gt (pc := 7) (tgt := 14) hX dX10_in_7 (by decide) (fun z => ?_) (fun z => ?_)
    · replace h := ite_t z h
      refine j_iconst (pc := 14) (v := (0 : Int32)) hX dX10_in_14 (by decide) ?_
      replace h := Option.some.inj h
      subst h
      exact j_iret (pc := 15) hX hE rfl rfl dX10_in_15 (Nat.le_refl 0) (Nat.le_refl 0) ⟨rfl, rfl, rfl⟩
    · replace h := ite_f z h
      refine j_iconst (pc := 10) (v := (1 : Int32)) hX dX10_in_10 (by decide) ?_
      refine j_goto (pc := 11) (tgt := 15) hX dX10_in_11 (by decide) ?_
      replace h := Option.some.inj h
      subst h
      exact j_iret (pc := 15) hX hE rfl rfl dX10_in_15 (Nat.le_refl 0) (Nat.le_refl 0) ⟨rfl, rfl, rfl⟩

set_option maxHeartbeats 4000000 in
set_option maxRecDepth 100000 in
theorem t_m_isLetter {l : Launch} {D : va_G} {G : Nat → ClassId} {d : Nat} (hdp : 1 ≤ d) {c r : jS} {a0 : Int32} {vE : Int32} (h : m_isLetter c a0 = some vE) : jC l D G d M_m_isLetter [.int a0] (jmix r c) (some (.int vE)) (jmix r c) := by
  refine jM_of rfl (Nat.le_of_ble_eq_true rfl) ?_
  intro X hl hD hG _ _ hX hE _
  subst hl hD hG
  unfold m_isLetter at h
  show J X 0 0 jN (jE (jmix r c)) [(0, .int a0)] [] 0
  refine j_iload_n (pc := 0) hX dX10_isLetter_0 rfl rfl ?_
  refine j_iconst (pc := 1) (v := (0 : Int32)) hX dX10_isLetter_1 (by decide) ?_
  refine j_bipush (pc := 2) (v := (25 : Int32)) hX dX10_isLetter_2 (by decide) ?_
  obtain ⟨r1, h1, h⟩ := ob_some h
  refine k_callSI (pc := 4) (st := []) hX ln_10_3 dX10_isLetter_4 (t_m_in (d := 0) (Nat.le_refl _) h1) rfl rfl (by omega) (Nat.le_of_ble_eq_true rfl) ?_
  obtain ⟨hb, h⟩ := gd_some h
  replace h := Option.some.inj h
  subst h
  exact j_iret (pc := 7) hX hE rfl (bz_nar hb) dX10_isLetter_7 (Nat.le_refl 0) (Nat.le_refl 0) ⟨rfl, rfl, rfl⟩

set_option maxHeartbeats 4000000 in
set_option maxRecDepth 100000 in
theorem t_m_isType {l : Launch} {D : va_G} {G : Nat → ClassId} {d : Nat} (hdp : 1 ≤ d) {c r : jS} {a1 : Int32} {vE : Int32} (h : m_isType c a1 = some vE) : jC l D G d M_m_isType [.ref 30, .int a1] (jmix r c) (some (.int vE)) (jmix r c) := by
  refine jM_of rfl (Nat.le_of_ble_eq_true rfl) ?_
  intro X hl hD hG _ _ hX hE _
  subst hl hD hG
  unfold m_isType at h
  show J X 0 0 jN (jE (jmix r c)) [(0, .ref 30), (1, .int a1)] [] 0
  refine j_iload_n (pc := 0) hX dX10_isType_0 rfl rfl ?_
  refine j_iconst (pc := 1) (v := (0 : Int32)) hX dX10_isType_1 (by decide) ?_
  refine j_aload_n (pc := 2) hX dX10_isType_2 rfl rfl ?_
  refine k_getI (pc := 3) (x := (c 30 0)) hX fl_10_13 dX10_isType_3 rfl rfl rfl ?_
  refine j_iconst (pc := 6) (v := (1 : Int32)) hX dX10_isType_6 (by decide) ?_
  refine j_isub (pc := 7) hX dX10_isType_7 ?_
  obtain ⟨r1, h1, h⟩ := ob_some h
  refine k_callSI (pc := 8) (st := []) hX ln_10_3 dX10_isType_8 (t_m_in (d := 0) (Nat.le_refl _) h1) rfl rfl (by omega) (Nat.le_of_ble_eq_true rfl) ?_
  obtain ⟨hb, h⟩ := gd_some h
  replace h := Option.some.inj h
  subst h
  exact j_iret (pc := 11) hX hE rfl (bz_nar hb) dX10_isType_11 (Nat.le_refl 0) (Nat.le_refl 0) ⟨rfl, rfl, rfl⟩

set_option maxHeartbeats 4000000 in
set_option maxRecDepth 100000 in
theorem tl_m_arrowOf_L2 {X : jX} {d : Nat} {r : jS} {vE : Int32} {cE : jS} (hX : jOk X RX10 cX10_arrowOf 4 d) (hdp : 0 ≤ d) (hE : jEnd X (some .int) 0 0 (fun r0 n0 h0 => r0 = (some (.int vE)) ∧ n0 = jN ∧ h0 = jE (jmix r cE))) : ∀ (v1 : Int32) (v2 : Int32) (v3 : Int32) (c : jS), m_arrowOf_L2 v1 v2 v3 c = some (vE, cE) → J X 0 0 jN (jE (jmix r c)) [(0, .ref 30), (1, .int v1), (2, .int v2), (3, .int v3)] [] 2 := by
  intro v1 v2 v3 c h
  unfold m_arrowOf_L2 at h
  replace h := lp_some h
  obtain ⟨k_2, h⟩ := h
  induction k_2 generalizing v1 v2 v3 c with
  | zero => cases h
  | succ k_2 ih_2 =>
    replace h : lq (fun s : (Int32 × Int32 × Int32 × jS) => m_arrowOf_S2 s.1 s.2.1 s.2.2.1 s.2.2.2) k_2 (vE, cE) (m_arrowOf_S2 v1 v2 v3 c) := lpk_succ (s := (v1, v2, v3, c)) h
    conv at h => arg 4; unfold m_arrowOf_S2
    refine j_iload_n (pc := 2) hX dX10_arrowOf_2 rfl rfl ?_
    refine j_aload_n (pc := 3) hX dX10_arrowOf_3 rfl rfl ?_
    refine k_getI (pc := 4) (x := (c 30 0)) hX fl_10_13 dX10_arrowOf_4 rfl rfl rfl ?_
    refine j_icmp_ge (pc := 7) (tgt := 38) hX dX10_arrowOf_7 (by decide) (fun z => ?_) (fun z => ?_)
    · replace h := lq_t z h
      refine j_aload_n (pc := 38) hX dX10_arrowOf_38 rfl rfl ?_
      refine k_getI (pc := 39) (x := (c 30 0)) hX fl_10_13 dX10_arrowOf_39 rfl rfl rfl ?_
      refine j_bipush (pc := 42) (v := (40 : Int32)) hX dX10_arrowOf_42 (by decide) ?_
      refine j_icmp_eq (pc := 44) (tgt := 67) hX dX10_arrowOf_44 (by decide) (fun z => ?_) (fun z => ?_)
      · replace h := lq_t z h
        refine j_bipush (pc := 67) (v := (-3 : Int32)) hX dX10_arrowOf_67 (by decide) ?_
        replace h := lq_r h
        obtain ⟨h, h0⟩ := Prod.mk.inj (Option.some.inj h)
        subst h h0
        exact j_iret (pc := 69) hX hE rfl rfl dX10_arrowOf_69 (Nat.le_refl 0) (Nat.le_refl 0) ⟨rfl, rfl, rfl⟩
      · replace h := lq_f z h
        refine j_aload_n (pc := 47) hX dX10_arrowOf_47 rfl rfl ?_
        refine k_getR (pc := 48) (q := 33) hX fl_10_24 dX10_arrowOf_48 rfl rfl ?_
        refine j_iload_n (pc := 51) hX dX10_arrowOf_51 rfl rfl ?_
        obtain ⟨hg, h⟩ := lq_gd h
        refine k_iald (pc := 52) (x := (c 33 (v1).toNatClampNeg)) hX dX10_arrowOf_52 rfl hg rfl ?_
        refine j_aload_n (pc := 53) hX dX10_arrowOf_53 rfl rfl ?_
        refine k_getR (pc := 54) (q := 33) hX fl_10_24 dX10_arrowOf_54 rfl rfl ?_
        refine j_iload_n (pc := 57) hX dX10_arrowOf_57 rfl rfl ?_
        obtain ⟨hg, h⟩ := lq_gd h
        refine k_iald (pc := 58) (x := (c 33 (v2).toNatClampNeg)) hX dX10_arrowOf_58 rfl hg rfl ?_
        refine j_iadd (pc := 59) hX dX10_arrowOf_59 ?_
        refine j_iconst (pc := 60) (v := (3 : Int32)) hX dX10_arrowOf_60 (by decide) ?_
        refine j_iadd (pc := 61) hX dX10_arrowOf_61 ?_
        refine j_bipush (pc := 62) (v := (40 : Int32)) hX dX10_arrowOf_62 (by decide) ?_
        refine j_icmp_le (pc := 64) (tgt := 70) hX dX10_arrowOf_64 (by decide) (fun z => ?_) (fun z => ?_)
        · replace h := lq_t z h
          refine j_aload_n (pc := 70) hX dX10_arrowOf_70 rfl rfl ?_
          refine k_getR (pc := 71) (q := 31) hX fl_10_17 dX10_arrowOf_71 rfl rfl ?_
          refine j_aload_n (pc := 74) hX dX10_arrowOf_74 rfl rfl ?_
          refine k_getI (pc := 75) (x := (c 30 0)) hX fl_10_13 dX10_arrowOf_75 rfl rfl rfl ?_
          refine j_iload_n (pc := 78) hX dX10_arrowOf_78 rfl rfl ?_
          obtain ⟨hg, h⟩ := lq_gd h
          obtain ⟨c1, hc, h⟩ := lq_lt h
          refine k_iast (pc := 79) (c' := jmix r c1) hX dX10_arrowOf_79 rfl hg (jmix_me rfl hc) ?_
          refine j_aload_n (pc := 80) hX dX10_arrowOf_80 rfl rfl ?_
          refine k_getR (pc := 81) (q := 32) hX fl_10_21 dX10_arrowOf_81 rfl rfl ?_
          refine j_aload_n (pc := 84) hX dX10_arrowOf_84 rfl rfl ?_
          refine k_getI (pc := 85) (x := (c1 30 0)) hX fl_10_13 dX10_arrowOf_85 rfl rfl rfl ?_
          refine j_iload_n (pc := 88) hX dX10_arrowOf_88 rfl rfl ?_
          obtain ⟨hg, h⟩ := lq_gd h
          obtain ⟨c2, hc, h⟩ := lq_lt h
          refine k_iast (pc := 89) (c' := jmix r c2) hX dX10_arrowOf_89 rfl hg (jmix_me rfl hc) ?_
          refine j_aload_n (pc := 90) hX dX10_arrowOf_90 rfl rfl ?_
          refine k_getR (pc := 91) (q := 33) hX fl_10_24 dX10_arrowOf_91 rfl rfl ?_
          refine j_aload_n (pc := 94) hX dX10_arrowOf_94 rfl rfl ?_
          refine k_getI (pc := 95) (x := (c2 30 0)) hX fl_10_13 dX10_arrowOf_95 rfl rfl rfl ?_
          refine j_aload_n (pc := 98) hX dX10_arrowOf_98 rfl rfl ?_
          refine k_getR (pc := 99) (q := 33) hX fl_10_24 dX10_arrowOf_99 rfl rfl ?_
          refine j_iload_n (pc := 102) hX dX10_arrowOf_102 rfl rfl ?_
          obtain ⟨hg, h⟩ := lq_gd h
          refine k_iald (pc := 103) (x := (c2 33 (v1).toNatClampNeg)) hX dX10_arrowOf_103 rfl hg rfl ?_
          refine j_aload_n (pc := 104) hX dX10_arrowOf_104 rfl rfl ?_
          refine k_getR (pc := 105) (q := 33) hX fl_10_24 dX10_arrowOf_105 rfl rfl ?_
          refine j_iload_n (pc := 108) hX dX10_arrowOf_108 rfl rfl ?_
          obtain ⟨hg, h⟩ := lq_gd h
          refine k_iald (pc := 109) (x := (c2 33 (v2).toNatClampNeg)) hX dX10_arrowOf_109 rfl hg rfl ?_
          refine j_iadd (pc := 110) hX dX10_arrowOf_110 ?_
          refine j_iconst (pc := 111) (v := (3 : Int32)) hX dX10_arrowOf_111 (by decide) ?_
          refine j_iadd (pc := 112) hX dX10_arrowOf_112 ?_
          obtain ⟨hg, h⟩ := lq_gd h
          obtain ⟨c3, hc, h⟩ := lq_lt h
          refine k_iast (pc := 113) (c' := jmix r c3) hX dX10_arrowOf_113 rfl hg (jmix_me rfl hc) ?_
          refine j_aload_n (pc := 114) hX dX10_arrowOf_114 rfl rfl ?_
          refine j_dup (pc := 115) hX dX10_arrowOf_115 rfl ?_
          refine k_getI (pc := 116) (x := (c3 30 0)) hX fl_10_13 dX10_arrowOf_116 rfl rfl rfl ?_
          refine j_iconst (pc := 119) (v := (1 : Int32)) hX dX10_arrowOf_119 (by decide) ?_
          refine j_iadd (pc := 120) hX dX10_arrowOf_120 ?_
          obtain ⟨c4, hc, h⟩ := lq_lt h
          refine k_putI (pc := 121) (c' := jmix r c4) hX pfl_10_13 dX10_arrowOf_121 rfl rfl (fun _ => ⟨rfl, rfl⟩) (jmix_me rfl hc) ?_
          refine j_aload_n (pc := 124) hX dX10_arrowOf_124 rfl rfl ?_
          refine k_getI (pc := 125) (x := (c4 30 0)) hX fl_10_13 dX10_arrowOf_125 rfl rfl rfl ?_
          refine j_iconst (pc := 128) (v := (1 : Int32)) hX dX10_arrowOf_128 (by decide) ?_
          refine j_isub (pc := 129) hX dX10_arrowOf_129 ?_
          replace h := lq_r h
          obtain ⟨h, h0⟩ := Prod.mk.inj (Option.some.inj h)
          subst h h0
          exact j_iret (pc := 130) hX hE rfl rfl dX10_arrowOf_130 (Nat.le_refl 0) (Nat.le_refl 0) ⟨rfl, rfl, rfl⟩
        · replace h := lq_f z h
          refine j_bipush (pc := 67) (v := (-3 : Int32)) hX dX10_arrowOf_67 (by decide) ?_
          replace h := lq_r h
          obtain ⟨h, h0⟩ := Prod.mk.inj (Option.some.inj h)
          subst h h0
          exact j_iret (pc := 69) hX hE rfl rfl dX10_arrowOf_69 (Nat.le_refl 0) (Nat.le_refl 0) ⟨rfl, rfl, rfl⟩
    · replace h := lq_f z h
      refine j_aload_n (pc := 10) hX dX10_arrowOf_10 rfl rfl ?_
      refine k_getR (pc := 11) (q := 31) hX fl_10_17 dX10_arrowOf_11 rfl rfl ?_
      refine j_iload_n (pc := 14) hX dX10_arrowOf_14 rfl rfl ?_
      obtain ⟨hg, h⟩ := lq_gd h
      refine k_iald (pc := 15) (x := (c 31 (v3).toNatClampNeg)) hX dX10_arrowOf_15 rfl hg rfl ?_
      refine j_iload_n (pc := 16) hX dX10_arrowOf_16 rfl rfl ?_
      refine j_icmp_ne (pc := 17) (tgt := 32) hX dX10_arrowOf_17 (by decide) (fun z => ?_) (fun z => ?_)
      · replace h := lq_f z h
        refine j_iinc (pc := 32) hX dX10_arrowOf_32 rfl (v := (v3 + (1 : Int32))) rfl (by decide) (by decide) ?_
        refine j_goto (pc := 35) (tgt := 2) hX dX10_arrowOf_35 (by decide) ?_
        refine j_sub (lv' := [(0, .ref 30), (1, .int v1), (2, .int v2), (3, .int (v3 + (1 : Int32)))]) ⟨rfl, rfl, rfl, rfl, trivial⟩ ?_
        exact ih_2 _ _ _ _ (lq_l h)
      · replace h := lq_t z h
        refine j_aload_n (pc := 20) hX dX10_arrowOf_20 rfl rfl ?_
        refine k_getR (pc := 21) (q := 32) hX fl_10_21 dX10_arrowOf_21 rfl rfl ?_
        refine j_iload_n (pc := 24) hX dX10_arrowOf_24 rfl rfl ?_
        obtain ⟨hg, h⟩ := lq_gd h
        refine k_iald (pc := 25) (x := (c 32 (v3).toNatClampNeg)) hX dX10_arrowOf_25 rfl hg rfl ?_
        refine j_iload_n (pc := 26) hX dX10_arrowOf_26 rfl rfl ?_
        refine j_icmp_ne (pc := 27) (tgt := 32) hX dX10_arrowOf_27 (by decide) (fun z => ?_) (fun z => ?_)
        · replace h := lq_f z h
          refine j_iinc (pc := 32) hX dX10_arrowOf_32 rfl (v := (v3 + (1 : Int32))) rfl (by decide) (by decide) ?_
          refine j_goto (pc := 35) (tgt := 2) hX dX10_arrowOf_35 (by decide) ?_
          refine j_sub (lv' := [(0, .ref 30), (1, .int v1), (2, .int v2), (3, .int (v3 + (1 : Int32)))]) ⟨rfl, rfl, rfl, rfl, trivial⟩ ?_
          exact ih_2 _ _ _ _ (lq_l h)
        · replace h := lq_t z h
          refine j_iload_n (pc := 30) hX dX10_arrowOf_30 rfl rfl ?_
          replace h := lq_r h
          obtain ⟨h, h0⟩ := Prod.mk.inj (Option.some.inj h)
          subst h h0
          exact j_iret (pc := 31) hX hE rfl rfl dX10_arrowOf_31 (Nat.le_refl 0) (Nat.le_refl 0) ⟨rfl, rfl, rfl⟩
set_option maxHeartbeats 4000000 in
set_option maxRecDepth 100000 in
theorem t_m_arrowOf {l : Launch} {D : va_G} {G : Nat → ClassId} {d : Nat} (hdp : 0 ≤ d) {c r : jS} {a1 : Int32} {a2 : Int32} {vE : Int32} {cE : jS} (h : m_arrowOf c a1 a2 = some (vE, cE)) : jC l D G d M_m_arrowOf [.ref 30, .int a1, .int a2] (jmix r c) (some (.int vE)) (jmix r cE) := by
  refine jM_of rfl (Nat.le_of_ble_eq_true rfl) ?_
  intro X hl hD hG _ _ hX hE _
  subst hl hD hG
  unfold m_arrowOf at h
  show J X 0 0 jN (jE (jmix r c)) [(0, .ref 30), (1, .int a1), (2, .int a2)] [] 0
  refine j_iconst (pc := 0) (v := (1 : Int32)) hX dX10_arrowOf_0 (by decide) ?_
  refine j_istore_n (pc := 1) hX dX10_arrowOf_1 rfl (by decide) (by decide) ?_
  refine j_sub (lv' := [(0, .ref 30), (1, .int a1), (2, .int a2), (3, .int (1 : Int32))]) ⟨rfl, rfl, rfl, rfl, trivial⟩ ?_
  exact tl_m_arrowOf_L2 hX hdp hE _ _ _ _ h

set_option maxHeartbeats 4000000 in
set_option maxRecDepth 100000 in
theorem t_m_arrow {l : Launch} {D : va_G} {G : Nat → ClassId} {d : Nat} (hdp : 2 ≤ d) {c r : jS} {a1 : Int32} {a2 : Int32} {vE : Int32} {cE : jS} (h : m_arrow c a1 a2 = some (vE, cE)) : jC l D G d M_m_arrow [.ref 30, .int a1, .int a2] (jmix r c) (some (.int vE)) (jmix r cE) := by
  refine jM_of rfl (Nat.le_of_ble_eq_true rfl) ?_
  intro X hl hD hG _ _ hX hE _
  subst hl hD hG
  unfold m_arrow at h
  show J X 0 0 jN (jE (jmix r c)) [(0, .ref 30), (1, .int a1), (2, .int a2)] [] 0
  refine j_aload_n (pc := 0) hX dX10_arrow_0 rfl rfl ?_
  refine j_iload_n (pc := 1) hX dX10_arrow_1 rfl rfl ?_
  obtain ⟨r1, h1, h⟩ := ob_some h
  refine k_callVI (pc := 2) (st := []) hX ln_10_108 dX10_arrow_2 (t_m_isType (d := 1) (Nat.le_refl _) h1) rfl rfl rfl (by omega) (Nat.le_of_ble_eq_true rfl) ?_
  refine j_if_eq (pc := 5) (tgt := 25) hX dX10_arrow_5 (by decide) (fun z => ?_) (fun z => ?_)
  · replace h := ite_t z h
    refine j_iconst (pc := 25) (v := (-1 : Int32)) hX dX10_arrow_25 (by decide) ?_
    obtain ⟨h, h0⟩ := Prod.mk.inj (Option.some.inj h)
    subst h h0
    exact j_iret (pc := 26) hX hE rfl rfl dX10_arrow_26 (Nat.le_refl 0) (Nat.le_refl 0) ⟨rfl, rfl, rfl⟩
  · replace h := ite_f z h
    refine j_aload_n (pc := 8) hX dX10_arrow_8 rfl rfl ?_
    refine j_iload_n (pc := 9) hX dX10_arrow_9 rfl rfl ?_
    obtain ⟨r2, h1, h⟩ := ob_some h
    refine k_callVI (pc := 10) (st := []) hX ln_10_108 dX10_arrow_10 (t_m_isType (d := 1) (Nat.le_refl _) h1) rfl rfl rfl (by omega) (Nat.le_of_ble_eq_true rfl) ?_
    refine j_if_eq (pc := 13) (tgt := 25) hX dX10_arrow_13 (by decide) (fun z => ?_) (fun z => ?_)
    · replace h := ite_t z h
      refine j_iconst (pc := 25) (v := (-1 : Int32)) hX dX10_arrow_25 (by decide) ?_
      obtain ⟨h, h0⟩ := Prod.mk.inj (Option.some.inj h)
      subst h h0
      exact j_iret (pc := 26) hX hE rfl rfl dX10_arrow_26 (Nat.le_refl 0) (Nat.le_refl 0) ⟨rfl, rfl, rfl⟩
    · replace h := ite_f z h
      refine j_aload_n (pc := 16) hX dX10_arrow_16 rfl rfl ?_
      refine j_iload_n (pc := 17) hX dX10_arrow_17 rfl rfl ?_
      refine j_iload_n (pc := 18) hX dX10_arrow_18 rfl rfl ?_
      obtain ⟨r3, c4, h1, h⟩ := bd_some h
      refine k_callVI (pc := 19) (st := []) hX ln_10_112 dX10_arrow_19 (t_m_arrowOf (d := 0) (Nat.le_refl _) h1) rfl rfl rfl (by omega) (Nat.le_of_ble_eq_true rfl) ?_
      refine j_goto (pc := 22) (tgt := 26) hX dX10_arrow_22 (by decide) ?_
      obtain ⟨h, h0⟩ := Prod.mk.inj (Option.some.inj h)
      subst h h0
      exact j_iret (pc := 26) hX hE rfl rfl dX10_arrow_26 (Nat.le_refl 0) (Nat.le_refl 0) ⟨rfl, rfl, rfl⟩

set_option maxHeartbeats 4000000 in
set_option maxRecDepth 100000 in
theorem t_m_side {l : Launch} {D : va_G} {G : Nat → ClassId} {d : Nat} (hdp : 2 ≤ d) {c r : jS} {a1 : Int32} {a2 : Int32} {vE : Int32} (h : m_side c a1 a2 = some vE) : jC l D G d M_m_side [.ref 30, .int a1, .int a2] (jmix r c) (some (.int vE)) (jmix r c) := by
  refine jM_of rfl (Nat.le_of_ble_eq_true rfl) ?_
  intro X hl hD hG _ _ hX hE _
  subst hl hD hG
  unfold m_side at h
  show J X 0 0 jN (jE (jmix r c)) [(0, .ref 30), (1, .int a1), (2, .int a2)] [] 0
  refine j_aload_n (pc := 0) hX dX10_side_0 rfl rfl ?_
  refine j_iload_n (pc := 1) hX dX10_side_1 rfl rfl ?_
  obtain ⟨r1, h1, h⟩ := ob_some h
  refine k_callVI (pc := 2) (st := []) hX ln_10_108 dX10_side_2 (t_m_isType (d := 1) (Nat.le_refl _) h1) rfl rfl rfl (by omega) (Nat.le_of_ble_eq_true rfl) ?_
  refine j_if_eq (pc := 5) (tgt := 17) hX dX10_side_5 (by decide) (fun z => ?_) (fun z => ?_)
  · replace h := ite_t z h
    refine j_iconst (pc := 17) (v := (-1 : Int32)) hX dX10_side_17 (by decide) ?_
    refine j_goto (pc := 18) (tgt := 40) hX dX10_side_18 (by decide) ?_
    replace h := Option.some.inj h
    subst h
    exact j_iret (pc := 40) hX hE rfl rfl dX10_side_40 (Nat.le_refl 0) (Nat.le_refl 0) ⟨rfl, rfl, rfl⟩
  · replace h := ite_f z h
    refine j_iload_n (pc := 8) hX dX10_side_8 rfl rfl ?_
    refine j_iconst (pc := 9) (v := (0 : Int32)) hX dX10_side_9 (by decide) ?_
    refine j_iconst (pc := 10) (v := (1 : Int32)) hX dX10_side_10 (by decide) ?_
    obtain ⟨r2, h1, h⟩ := ob_some h
    refine k_callSI (pc := 11) (st := []) hX ln_10_3 dX10_side_11 (t_m_in (d := 0) (Nat.le_refl _) h1) rfl rfl (by omega) (Nat.le_of_ble_eq_true rfl) ?_
    refine j_if_ne (pc := 14) (tgt := 21) hX dX10_side_14 (by decide) (fun z => ?_) (fun z => ?_)
    · replace h := ite_f z h
      refine j_iload_n (pc := 21) hX dX10_side_21 rfl rfl ?_
      refine j_if_ne (pc := 22) (tgt := 34) hX dX10_side_22 (by decide) (fun z => ?_) (fun z => ?_)
      · replace h := ite_f z h
        refine j_aload_n (pc := 34) hX dX10_side_34 rfl rfl ?_
        refine k_getR (pc := 35) (q := 32) hX fl_10_21 dX10_side_35 rfl rfl ?_
        refine j_iload_n (pc := 38) hX dX10_side_38 rfl rfl ?_
        obtain ⟨hg, h⟩ := gd_some h
        refine k_iald (pc := 39) (x := (c 32 (a1).toNatClampNeg)) hX dX10_side_39 rfl hg rfl ?_
        replace h := Option.some.inj h
        subst h
        exact j_iret (pc := 40) hX hE rfl rfl dX10_side_40 (Nat.le_refl 0) (Nat.le_refl 0) ⟨rfl, rfl, rfl⟩
      · replace h := ite_t z h
        refine j_aload_n (pc := 25) hX dX10_side_25 rfl rfl ?_
        refine k_getR (pc := 26) (q := 31) hX fl_10_17 dX10_side_26 rfl rfl ?_
        refine j_iload_n (pc := 29) hX dX10_side_29 rfl rfl ?_
        obtain ⟨hg, h⟩ := gd_some h
        refine k_iald (pc := 30) (x := (c 31 (a1).toNatClampNeg)) hX dX10_side_30 rfl hg rfl ?_
        refine j_goto (pc := 31) (tgt := 40) hX dX10_side_31 (by decide) ?_
        replace h := Option.some.inj h
        subst h
        exact j_iret (pc := 40) hX hE rfl rfl dX10_side_40 (Nat.le_refl 0) (Nat.le_refl 0) ⟨rfl, rfl, rfl⟩
    · replace h := ite_t z h
      refine j_iconst (pc := 17) (v := (-1 : Int32)) hX dX10_side_17 (by decide) ?_
      refine j_goto (pc := 18) (tgt := 40) hX dX10_side_18 (by decide) ?_
      replace h := Option.some.inj h
      subst h
      exact j_iret (pc := 40) hX hE rfl rfl dX10_side_40 (Nat.le_refl 0) (Nat.le_refl 0) ⟨rfl, rfl, rfl⟩

set_option maxHeartbeats 4000000 in
set_option maxRecDepth 100000 in
theorem t_m_declare {l : Launch} {D : va_G} {G : Nat → ClassId} {d : Nat} (hdp : 2 ≤ d) {c r : jS} {a1 : Int32} {a2 : Int32} {vE : Int32} {cE : jS} (h : m_declare c a1 a2 = some (vE, cE)) : jC l D G d M_m_declare [.ref 30, .int a1, .int a2] (jmix r c) (some (.int vE)) (jmix r cE) := by
  refine jM_of rfl (Nat.le_of_ble_eq_true rfl) ?_
  intro X hl hD hG _ _ hX hE _
  subst hl hD hG
  unfold m_declare at h
  show J X 0 0 jN (jE (jmix r c)) [(0, .ref 30), (1, .int a1), (2, .int a2)] [] 0
  refine j_iload_n (pc := 0) hX dX10_declare_0 rfl rfl ?_
  obtain ⟨r1, h1, h⟩ := ob_some h
  refine k_callSI (pc := 1) (st := []) hX ln_10_116 dX10_declare_1 (t_m_isLetter (d := 1) (Nat.le_refl _) h1) rfl rfl (by omega) (Nat.le_of_ble_eq_true rfl) ?_
  refine j_if_eq (pc := 4) (tgt := 21) hX dX10_declare_4 (by decide) (fun z => ?_) (fun z => ?_)
  · replace h := ite_t z h
    refine j_iconst (pc := 21) (v := (-1 : Int32)) hX dX10_declare_21 (by decide) ?_
    obtain ⟨h, h0⟩ := Prod.mk.inj (Option.some.inj h)
    subst h h0
    exact j_iret (pc := 22) hX hE rfl rfl dX10_declare_22 (Nat.le_refl 0) (Nat.le_refl 0) ⟨rfl, rfl, rfl⟩
  · replace h := ite_f z h
    refine j_iload_n (pc := 7) hX dX10_declare_7 rfl rfl ?_
    refine j_bipush (pc := 8) (v := (-2 : Int32)) hX dX10_declare_8 (by decide) ?_
    refine j_icmp_eq (pc := 10) (tgt := 23) hX dX10_declare_10 (by decide) (fun z => ?_) (fun z => ?_)
    · replace h := ite_t z h
      refine j_aload_n (pc := 23) hX dX10_declare_23 rfl rfl ?_
      refine k_getR (pc := 24) (q := 34) hX fl_10_27 dX10_declare_24 rfl rfl ?_
      refine j_iload_n (pc := 27) hX dX10_declare_27 rfl rfl ?_
      refine j_iload_n (pc := 28) hX dX10_declare_28 rfl rfl ?_
      obtain ⟨hg, h⟩ := gd_some h
      obtain ⟨c2, hc, h⟩ := lt_some h
      refine k_iast (pc := 29) (c' := jmix r c2) hX dX10_declare_29 rfl hg (jmix_me rfl hc) ?_
      refine j_iconst (pc := 30) (v := (1 : Int32)) hX dX10_declare_30 (by decide) ?_
      obtain ⟨h, h0⟩ := Prod.mk.inj (Option.some.inj h)
      subst h h0
      exact j_iret (pc := 31) hX hE rfl rfl dX10_declare_31 (Nat.le_refl 0) (Nat.le_refl 0) ⟨rfl, rfl, rfl⟩
    · replace h := ite_f z h
      refine j_aload_n (pc := 13) hX dX10_declare_13 rfl rfl ?_
      refine j_iload_n (pc := 14) hX dX10_declare_14 rfl rfl ?_
      obtain ⟨r3, h1, h⟩ := ob_some h
      refine k_callVI (pc := 15) (st := []) hX ln_10_108 dX10_declare_15 (t_m_isType (d := 1) (Nat.le_refl _) h1) rfl rfl rfl (by omega) (Nat.le_of_ble_eq_true rfl) ?_
      refine j_if_ne (pc := 18) (tgt := 23) hX dX10_declare_18 (by decide) (fun z => ?_) (fun z => ?_)
      · replace h := ite_f z h
        refine j_aload_n (pc := 23) hX dX10_declare_23 rfl rfl ?_
        refine k_getR (pc := 24) (q := 34) hX fl_10_27 dX10_declare_24 rfl rfl ?_
        refine j_iload_n (pc := 27) hX dX10_declare_27 rfl rfl ?_
        refine j_iload_n (pc := 28) hX dX10_declare_28 rfl rfl ?_
        obtain ⟨hg, h⟩ := gd_some h
        obtain ⟨c4, hc, h⟩ := lt_some h
        refine k_iast (pc := 29) (c' := jmix r c4) hX dX10_declare_29 rfl hg (jmix_me rfl hc) ?_
        refine j_iconst (pc := 30) (v := (1 : Int32)) hX dX10_declare_30 (by decide) ?_
        obtain ⟨h, h0⟩ := Prod.mk.inj (Option.some.inj h)
        subst h h0
        exact j_iret (pc := 31) hX hE rfl rfl dX10_declare_31 (Nat.le_refl 0) (Nat.le_refl 0) ⟨rfl, rfl, rfl⟩
      · replace h := ite_t z h
        refine j_iconst (pc := 21) (v := (-1 : Int32)) hX dX10_declare_21 (by decide) ?_
        obtain ⟨h, h0⟩ := Prod.mk.inj (Option.some.inj h)
        subst h h0
        exact j_iret (pc := 22) hX hE rfl rfl dX10_declare_22 (Nat.le_refl 0) (Nat.le_refl 0) ⟨rfl, rfl, rfl⟩

set_option maxHeartbeats 4000000 in
set_option maxRecDepth 100000 in
theorem t_m_isTerm {l : Launch} {D : va_G} {G : Nat → ClassId} {d : Nat} (hdp : 1 ≤ d) {c r : jS} {a1 : Int32} {vE : Int32} (h : m_isTerm c a1 = some vE) : jC l D G d M_m_isTerm [.ref 30, .int a1] (jmix r c) (some (.int vE)) (jmix r c) := by
  refine jM_of rfl (Nat.le_of_ble_eq_true rfl) ?_
  intro X hl hD hG _ _ hX hE _
  subst hl hD hG
  unfold m_isTerm at h
  show J X 0 0 jN (jE (jmix r c)) [(0, .ref 30), (1, .int a1)] [] 0
  refine j_iload_n (pc := 0) hX dX10_isTerm_0 rfl rfl ?_
  refine j_iconst (pc := 1) (v := (0 : Int32)) hX dX10_isTerm_1 (by decide) ?_
  refine j_aload_n (pc := 2) hX dX10_isTerm_2 rfl rfl ?_
  refine k_getI (pc := 3) (x := (c 30 5)) hX fl_10_119 dX10_isTerm_3 rfl rfl rfl ?_
  refine j_iconst (pc := 6) (v := (1 : Int32)) hX dX10_isTerm_6 (by decide) ?_
  refine j_isub (pc := 7) hX dX10_isTerm_7 ?_
  obtain ⟨r1, h1, h⟩ := ob_some h
  refine k_callSI (pc := 8) (st := []) hX ln_10_3 dX10_isTerm_8 (t_m_in (d := 0) (Nat.le_refl _) h1) rfl rfl (by omega) (Nat.le_of_ble_eq_true rfl) ?_
  obtain ⟨hb, h⟩ := gd_some h
  replace h := Option.some.inj h
  subst h
  exact j_iret (pc := 11) hX hE rfl (bz_nar hb) dX10_isTerm_11 (Nat.le_refl 0) (Nat.le_refl 0) ⟨rfl, rfl, rfl⟩

set_option maxHeartbeats 4000000 in
set_option maxRecDepth 100000 in
theorem t_m_partsOf {l : Launch} {D : va_G} {G : Nat → ClassId} {d : Nat} (hdp : 0 ≤ d) {c r : jS} {a0 : Int32} {vE : Int32} (h : m_partsOf c a0 = some vE) : jC l D G d M_m_partsOf [.int a0] (jmix r c) (some (.int vE)) (jmix r c) := by
  refine jM_of rfl (Nat.le_of_ble_eq_true rfl) ?_
  intro X hl hD hG _ _ hX hE _
  subst hl hD hG
  unfold m_partsOf at h
  show J X 0 0 jN (jE (jmix r c)) [(0, .int a0)] [] 0
  refine j_iload_n (pc := 0) hX dX10_partsOf_0 rfl rfl ?_
  refine j_iconst (pc := 1) (v := (2 : Int32)) hX dX10_partsOf_1 (by decide) ?_
  refine j_icmp_ge (pc := 2) (tgt := 9) hX dX10_partsOf_2 (by decide) (fun z => ?_) (fun z => ?_)
  · replace h := ite_t z h
    refine j_iload_n (pc := 9) hX dX10_partsOf_9 rfl rfl ?_
    refine j_iconst (pc := 10) (v := (2 : Int32)) hX dX10_partsOf_10 (by decide) ?_
    refine j_icmp_ne (pc := 11) (tgt := 18) hX dX10_partsOf_11 (by decide) (fun z => ?_) (fun z => ?_)
    · replace h := ite_f z h
      refine j_iload_n (pc := 18) hX dX10_partsOf_18 rfl rfl ?_
      refine j_bipush (pc := 19) (v := (6 : Int32)) hX dX10_partsOf_19 (by decide) ?_
      refine j_icmp_ne (pc := 21) (tgt := 28) hX dX10_partsOf_21 (by decide) (fun z => ?_) (fun z => ?_)
      · replace h := ite_f z h
        refine j_iconst (pc := 28) (v := (2 : Int32)) hX dX10_partsOf_28 (by decide) ?_
        replace h := Option.some.inj h
        subst h
        exact j_iret (pc := 29) hX hE rfl rfl dX10_partsOf_29 (Nat.le_refl 0) (Nat.le_refl 0) ⟨rfl, rfl, rfl⟩
      · replace h := ite_t z h
        refine j_iconst (pc := 24) (v := (3 : Int32)) hX dX10_partsOf_24 (by decide) ?_
        refine j_goto (pc := 25) (tgt := 29) hX dX10_partsOf_25 (by decide) ?_
        replace h := Option.some.inj h
        subst h
        exact j_iret (pc := 29) hX hE rfl rfl dX10_partsOf_29 (Nat.le_refl 0) (Nat.le_refl 0) ⟨rfl, rfl, rfl⟩
    · replace h := ite_t z h
      refine j_iconst (pc := 14) (v := (1 : Int32)) hX dX10_partsOf_14 (by decide) ?_
      refine j_goto (pc := 15) (tgt := 29) hX dX10_partsOf_15 (by decide) ?_
      replace h := Option.some.inj h
      subst h
      exact j_iret (pc := 29) hX hE rfl rfl dX10_partsOf_29 (Nat.le_refl 0) (Nat.le_refl 0) ⟨rfl, rfl, rfl⟩
  · replace h := ite_f z h
    refine j_iconst (pc := 5) (v := (0 : Int32)) hX dX10_partsOf_5 (by decide) ?_
    refine j_goto (pc := 6) (tgt := 29) hX dX10_partsOf_6 (by decide) ?_
    replace h := Option.some.inj h
    subst h
    exact j_iret (pc := 29) hX hE rfl rfl dX10_partsOf_29 (Nat.le_refl 0) (Nat.le_refl 0) ⟨rfl, rfl, rfl⟩

set_option maxHeartbeats 4000000 in
set_option maxRecDepth 100000 in
theorem t_m_part {l : Launch} {D : va_G} {G : Nat → ClassId} {d : Nat} (hdp : 0 ≤ d) {c r : jS} {a1 : Int32} {a2 : Int32} {vE : Int32} (h : m_part c a1 a2 = some vE) : jC l D G d M_m_part [.ref 30, .int a1, .int a2] (jmix r c) (some (.int vE)) (jmix r c) := by
  refine jM_of rfl (Nat.le_of_ble_eq_true rfl) ?_
  intro X hl hD hG _ _ hX hE _
  subst hl hD hG
  unfold m_part at h
  show J X 0 0 jN (jE (jmix r c)) [(0, .ref 30), (1, .int a1), (2, .int a2)] [] 0
  refine j_aload_n (pc := 0) hX dX10_part_0 rfl rfl ?_
  refine k_getR (pc := 1) (q := 39) hX fl_10_42 dX10_part_1 rfl rfl ?_
  refine j_iconst (pc := 4) (v := (3 : Int32)) hX dX10_part_4 (by decide) ?_
  refine j_iload_n (pc := 5) hX dX10_part_5 rfl rfl ?_
  refine j_imul (pc := 6) hX dX10_part_6 ?_
  refine j_iload_n (pc := 7) hX dX10_part_7 rfl rfl ?_
  refine j_iadd (pc := 8) hX dX10_part_8 ?_
  obtain ⟨hg, h⟩ := gd_some h
  refine k_iald (pc := 9) (x := (c 39 ((((3 : Int32) * a1) + a2)).toNatClampNeg)) hX dX10_part_9 rfl hg rfl ?_
  replace h := Option.some.inj h
  subst h
  exact j_iret (pc := 10) hX hE rfl rfl dX10_part_10 (Nat.le_refl 0) (Nat.le_refl 0) ⟨rfl, rfl, rfl⟩

set_option maxHeartbeats 4000000 in
set_option maxRecDepth 100000 in
theorem t_m_freeOf {l : Launch} {D : va_G} {G : Nat → ClassId} {d : Nat} (hdp : 0 ≤ d) {c r : jS} {a1 : Int32} {a2 : Int32} {vE : Int32} (h : m_freeOf c a1 a2 = some vE) : jC l D G d M_m_freeOf [.ref 30, .int a1, .int a2] (jmix r c) (some (.int vE)) (jmix r c) := by
  refine jM_of rfl (Nat.le_of_ble_eq_true rfl) ?_
  intro X hl hD hG _ _ hX hE _
  subst hl hD hG
  unfold m_freeOf at h
  show J X 0 0 jN (jE (jmix r c)) [(0, .ref 30), (1, .int a1), (2, .int a2)] [] 0
  refine j_aload_n (pc := 0) hX dX10_freeOf_0 rfl rfl ?_
  refine k_getR (pc := 1) (q := 42) hX fl_10_51 dX10_freeOf_1 rfl rfl ?_
  refine j_bipush (pc := 4) (v := (26 : Int32)) hX dX10_freeOf_4 (by decide) ?_
  refine j_iload_n (pc := 6) hX dX10_freeOf_6 rfl rfl ?_
  refine j_imul (pc := 7) hX dX10_freeOf_7 ?_
  refine j_iload_n (pc := 8) hX dX10_freeOf_8 rfl rfl ?_
  refine j_iadd (pc := 9) hX dX10_freeOf_9 ?_
  obtain ⟨hg, h⟩ := gd_some h
  refine k_iald (pc := 10) (x := (c 42 ((((26 : Int32) * a1) + a2)).toNatClampNeg)) hX dX10_freeOf_10 rfl hg rfl ?_
  replace h := Option.some.inj h
  subst h
  exact j_iret (pc := 11) hX hE rfl rfl dX10_freeOf_11 (Nat.le_refl 0) (Nat.le_refl 0) ⟨rfl, rfl, rfl⟩

set_option maxHeartbeats 4000000 in
set_option maxRecDepth 100000 in
theorem t_m_isFree {l : Launch} {D : va_G} {G : Nat → ClassId} {d : Nat} (hdp : 0 ≤ d) {c r : jS} {a1 : Int32} {a2 : Int32} {vE : Int32} (h : m_isFree c a1 a2 = some vE) : jC l D G d M_m_isFree [.ref 30, .int a1, .int a2] (jmix r c) (some (.int vE)) (jmix r c) := by
  refine jM_of rfl (Nat.le_of_ble_eq_true rfl) ?_
  intro X hl hD hG _ _ hX hE _
  subst hl hD hG
  unfold m_isFree at h
  show J X 0 0 jN (jE (jmix r c)) [(0, .ref 30), (1, .int a1), (2, .int a2)] [] 0
  refine j_aload_n (pc := 0) hX dX10_isFree_0 rfl rfl ?_
  refine k_getR (pc := 1) (q := 42) hX fl_10_51 dX10_isFree_1 rfl rfl ?_
  refine j_bipush (pc := 4) (v := (26 : Int32)) hX dX10_isFree_4 (by decide) ?_
  refine j_iload_n (pc := 6) hX dX10_isFree_6 rfl rfl ?_
  refine j_imul (pc := 7) hX dX10_isFree_7 ?_
  refine j_iload_n (pc := 8) hX dX10_isFree_8 rfl rfl ?_
  refine j_iadd (pc := 9) hX dX10_isFree_9 ?_
  obtain ⟨hg, h⟩ := gd_some h
  refine k_iald (pc := 10) (x := (c 42 ((((26 : Int32) * a1) + a2)).toNatClampNeg)) hX dX10_isFree_10 rfl hg rfl ?_
  refine j_if_le (pc := 11) (tgt := 18) hX dX10_isFree_11 (by decide) (fun z => ?_) (fun z => ?_)
  · replace h := ite_t z h
    refine j_iconst (pc := 18) (v := (0 : Int32)) hX dX10_isFree_18 (by decide) ?_
    replace h := Option.some.inj h
    subst h
    exact j_iret (pc := 19) hX hE rfl rfl dX10_isFree_19 (Nat.le_refl 0) (Nat.le_refl 0) ⟨rfl, rfl, rfl⟩
  · replace h := ite_f z h
    refine j_iconst (pc := 14) (v := (1 : Int32)) hX dX10_isFree_14 (by decide) ?_
    refine j_goto (pc := 15) (tgt := 19) hX dX10_isFree_15 (by decide) ?_
    replace h := Option.some.inj h
    subst h
    exact j_iret (pc := 19) hX hE rfl rfl dX10_isFree_19 (Nat.le_refl 0) (Nat.le_refl 0) ⟨rfl, rfl, rfl⟩

set_option maxHeartbeats 4000000 in
set_option maxRecDepth 100000 in
theorem tj_m_make_P235_201 {X : jX} {d : Nat} {r : jS} {vE : Int32} {cE : jS} (hX : jOk X RX10 cX10_make 15 d) (hdp : 1 ≤ d) (hE : jEnd X (some .int) 0 0 (fun r0 n0 h0 => r0 = (some (.int vE)) ∧ n0 = jN ∧ h0 = jE (jmix r cE))) {k_141 : Nat} (ih_141 : ∀ (v1 : Int32) (v3 : Int32) (v8 : Int32) (v9 : Int32) (v10 : Int32) (v11 : Int32) (c : jS), lpk (fun s : (Int32 × Int32 × Int32 × Int32 × Int32 × Int32 × jS) => m_make_S141 s.1 s.2.1 s.2.2.1 s.2.2.2.1 s.2.2.2.2.1 s.2.2.2.2.2.1 s.2.2.2.2.2.2) k_141 (v1, v3, v8, v9, v10, v11, c) = some (vE, cE) → J X 0 0 jN (jE (jmix r c)) [(0, .ref 30), (1, .int v1), (3, .int v3), (8, .int v8), (9, .int v9), (10, .int v10), (11, .int v11)] [] 141) {k_201 : Nat} {out_201 : ((Int32 × Int32 × Int32 × Int32 × Int32 × Int32 × jS) ⊕ (Int32 × jS))} (ho_201 : lq (fun s : (Int32 × Int32 × Int32 × Int32 × Int32 × Int32 × jS) => m_make_S141 s.1 s.2.1 s.2.2.1 s.2.2.2.1 s.2.2.2.2.1 s.2.2.2.2.2.1 s.2.2.2.2.2.2) k_141 (vE, cE) (some out_201)) (ih_201 : ∀ (v1 : Int32) (v3 : Int32) (v8 : Int32) (v9 : Int32) (v10 : Int32) (v11 : Int32) (v12 : Int32) (v13 : Int32) (c : jS), lpk (fun s : (Int32 × Int32 × Int32 × Int32 × Int32 × Int32 × Int32 × Int32 × jS) => m_make_S201 s.1 s.2.1 s.2.2.1 s.2.2.2.1 s.2.2.2.2.1 s.2.2.2.2.2.1 s.2.2.2.2.2.2.1 s.2.2.2.2.2.2.2.1 s.2.2.2.2.2.2.2.2) k_201 (v1, v3, v8, v9, v10, v11, v12, v13, c) = some out_201 → J X 0 0 jN (jE (jmix r c)) [(0, .ref 30), (1, .int v1), (3, .int v3), (8, .int v8), (9, .int v9), (10, .int v10), (11, .int v11), (12, .int v12), (13, .int v13)] [] 201) : ∀ (v1 : Int32) (v3 : Int32) (v8 : Int32) (v9 : Int32) (v10 : Int32) (v11 : Int32) (v12 : Int32) (v13 : Int32) (s0 : Int32) (c : jS), lq (fun s : (Int32 × Int32 × Int32 × Int32 × Int32 × Int32 × Int32 × Int32 × jS) => m_make_S201 s.1 s.2.1 s.2.2.1 s.2.2.2.1 s.2.2.2.2.1 s.2.2.2.2.2.1 s.2.2.2.2.2.2.1 s.2.2.2.2.2.2.2.1 s.2.2.2.2.2.2.2.2) k_201 out_201 (m_make_P235_201 v1 v3 v8 v9 v10 v11 v12 v13 s0 c) → J X 0 0 jN (jE (jmix r c)) [(0, .ref 30), (1, .int v1), (3, .int v3), (8, .int v8), (9, .int v9), (10, .int v10), (11, .int v11), (12, .int v12), (13, .int v13)] [.int s0] 235 := by
  intro v1 v3 v8 v9 v10 v11 v12 v13 s0 c h
  conv at h => arg 4; unfold m_make_P235_201
  refine j_istore (pc := 235) hX dX10_make_235 (by decide) (by decide) ?_
  refine j_aload_n (pc := 237) hX dX10_make_237 rfl rfl ?_
  refine k_getR (pc := 238) (q := 42) hX fl_10_51 dX10_make_238 rfl rfl ?_
  refine j_bipush (pc := 241) (v := (26 : Int32)) hX dX10_make_241 (by decide) ?_
  refine j_iload (pc := 243) hX dX10_make_243 rfl ?_
  refine j_imul (pc := 245) hX dX10_make_245 ?_
  refine j_iload (pc := 246) hX dX10_make_246 rfl ?_
  refine j_iadd (pc := 248) hX dX10_make_248 ?_
  refine j_dup2 (pc := 249) hX dX10_make_249 rfl rfl ?_
  obtain ⟨hg, h⟩ := lq_gd h
  refine k_iald (pc := 250) (x := (c 42 ((((26 : Int32) * v8) + v13)).toNatClampNeg)) hX dX10_make_250 rfl hg rfl ?_
  refine j_iload (pc := 251) hX dX10_make_251 rfl ?_
  refine j_if_eq (pc := 253) (tgt := 260) hX dX10_make_253 (by decide) (fun z => ?_) (fun z => ?_)
  · replace h := lq_t z h
    refine j_aload_n (pc := 260) hX dX10_make_260 rfl rfl ?_
    refine j_iload (pc := 261) hX dX10_make_261 rfl ?_
    refine j_iload (pc := 263) hX dX10_make_263 rfl ?_
    obtain ⟨r13, h1, h⟩ := lq_ob h
    refine k_callVI (pc := 265) (st := [.int (c 42 ((((26 : Int32) * v8) + v13)).toNatClampNeg), .int (((26 : Int32) * v8) + v13), .ref 42]) hX ln_10_129 dX10_make_265 (t_m_freeOf (d := 0) (Nat.le_refl _) h1) rfl rfl rfl (by omega) (Nat.le_of_ble_eq_true rfl) ?_
    refine j_iadd (pc := 268) hX dX10_make_268 ?_
    obtain ⟨hg, h⟩ := lq_gd h
    obtain ⟨c14, hc, h⟩ := lq_lt h
    refine k_iast (pc := 269) (c' := jmix r c14) hX dX10_make_269 rfl hg (jmix_me rfl hc) ?_
    refine j_iinc (pc := 270) hX dX10_make_270 rfl (v := (v13 + (1 : Int32))) rfl (by decide) (by decide) ?_
    refine j_goto (pc := 273) (tgt := 201) hX dX10_make_273 (by decide) ?_
    refine j_sub (lv' := [(0, .ref 30), (1, .int v1), (3, .int v3), (8, .int v8), (9, .int v9), (10, .int v10), (11, .int v11), (12, .int v12), (13, .int (v13 + (1 : Int32)))]) ⟨rfl, rfl, rfl, rfl, rfl, rfl, rfl, rfl, rfl, trivial⟩ ?_
    exact ih_201 _ _ _ _ _ _ _ _ _ (lq_l h)
  · replace h := lq_f z h
    refine j_iconst (pc := 256) (v := (0 : Int32)) hX dX10_make_256 (by decide) ?_
    refine j_goto (pc := 257) (tgt := 268) hX dX10_make_257 (by decide) ?_
    refine j_iadd (pc := 268) hX dX10_make_268 ?_
    obtain ⟨hg, h⟩ := lq_gd h
    obtain ⟨c15, hc, h⟩ := lq_lt h
    refine k_iast (pc := 269) (c' := jmix r c15) hX dX10_make_269 rfl hg (jmix_me rfl hc) ?_
    refine j_iinc (pc := 270) hX dX10_make_270 rfl (v := (v13 + (1 : Int32))) rfl (by decide) (by decide) ?_
    refine j_goto (pc := 273) (tgt := 201) hX dX10_make_273 (by decide) ?_
    refine j_sub (lv' := [(0, .ref 30), (1, .int v1), (3, .int v3), (8, .int v8), (9, .int v9), (10, .int v10), (11, .int v11), (12, .int v12), (13, .int (v13 + (1 : Int32)))]) ⟨rfl, rfl, rfl, rfl, rfl, rfl, rfl, rfl, rfl, trivial⟩ ?_
    exact ih_201 _ _ _ _ _ _ _ _ _ (lq_l h)
set_option maxHeartbeats 4000000 in
set_option maxRecDepth 100000 in
theorem tj_m_make_P230_201 {X : jX} {d : Nat} {r : jS} {vE : Int32} {cE : jS} (hX : jOk X RX10 cX10_make 15 d) (hdp : 1 ≤ d) (hE : jEnd X (some .int) 0 0 (fun r0 n0 h0 => r0 = (some (.int vE)) ∧ n0 = jN ∧ h0 = jE (jmix r cE))) {k_141 : Nat} (ih_141 : ∀ (v1 : Int32) (v3 : Int32) (v8 : Int32) (v9 : Int32) (v10 : Int32) (v11 : Int32) (c : jS), lpk (fun s : (Int32 × Int32 × Int32 × Int32 × Int32 × Int32 × jS) => m_make_S141 s.1 s.2.1 s.2.2.1 s.2.2.2.1 s.2.2.2.2.1 s.2.2.2.2.2.1 s.2.2.2.2.2.2) k_141 (v1, v3, v8, v9, v10, v11, c) = some (vE, cE) → J X 0 0 jN (jE (jmix r c)) [(0, .ref 30), (1, .int v1), (3, .int v3), (8, .int v8), (9, .int v9), (10, .int v10), (11, .int v11)] [] 141) {k_201 : Nat} {out_201 : ((Int32 × Int32 × Int32 × Int32 × Int32 × Int32 × jS) ⊕ (Int32 × jS))} (ho_201 : lq (fun s : (Int32 × Int32 × Int32 × Int32 × Int32 × Int32 × jS) => m_make_S141 s.1 s.2.1 s.2.2.1 s.2.2.2.1 s.2.2.2.2.1 s.2.2.2.2.2.1 s.2.2.2.2.2.2) k_141 (vE, cE) (some out_201)) (ih_201 : ∀ (v1 : Int32) (v3 : Int32) (v8 : Int32) (v9 : Int32) (v10 : Int32) (v11 : Int32) (v12 : Int32) (v13 : Int32) (c : jS), lpk (fun s : (Int32 × Int32 × Int32 × Int32 × Int32 × Int32 × Int32 × Int32 × jS) => m_make_S201 s.1 s.2.1 s.2.2.1 s.2.2.2.1 s.2.2.2.2.1 s.2.2.2.2.2.1 s.2.2.2.2.2.2.1 s.2.2.2.2.2.2.2.1 s.2.2.2.2.2.2.2.2) k_201 (v1, v3, v8, v9, v10, v11, v12, v13, c) = some out_201 → J X 0 0 jN (jE (jmix r c)) [(0, .ref 30), (1, .int v1), (3, .int v3), (8, .int v8), (9, .int v9), (10, .int v10), (11, .int v11), (12, .int v12), (13, .int v13)] [] 201) : ∀ (v1 : Int32) (v3 : Int32) (v8 : Int32) (v9 : Int32) (v10 : Int32) (v11 : Int32) (v12 : Int32) (v13 : Int32) (c : jS), lq (fun s : (Int32 × Int32 × Int32 × Int32 × Int32 × Int32 × Int32 × Int32 × jS) => m_make_S201 s.1 s.2.1 s.2.2.1 s.2.2.2.1 s.2.2.2.2.1 s.2.2.2.2.2.1 s.2.2.2.2.2.2.1 s.2.2.2.2.2.2.2.1 s.2.2.2.2.2.2.2.2) k_201 out_201 (m_make_P230_201 v1 v3 v8 v9 v10 v11 v12 v13 c) → J X 0 0 jN (jE (jmix r c)) [(0, .ref 30), (1, .int v1), (3, .int v3), (8, .int v8), (9, .int v9), (10, .int v10), (11, .int v11), (12, .int v12), (13, .int v13)] [] 230 := by
  intro v1 v3 v8 v9 v10 v11 v12 v13 c h
  conv at h => arg 4; unfold m_make_P230_201
  refine j_iconst (pc := 230) (v := (1 : Int32)) hX dX10_make_230 (by decide) ?_
  refine j_goto (pc := 231) (tgt := 235) hX dX10_make_231 (by decide) ?_
  refine j_sub (lv' := [(0, .ref 30), (1, .int v1), (3, .int v3), (8, .int v8), (9, .int v9), (10, .int v10), (11, .int v11), (12, .int v12), (13, .int v13)]) ⟨rfl, rfl, rfl, rfl, rfl, rfl, rfl, rfl, rfl, trivial⟩ ?_
  exact tj_m_make_P235_201 hX hdp hE ih_141 ho_201 ih_201 _ _ _ _ _ _ _ _ _ _ h
set_option maxHeartbeats 4000000 in
set_option maxRecDepth 100000 in
theorem tj_m_make_P234_201 {X : jX} {d : Nat} {r : jS} {vE : Int32} {cE : jS} (hX : jOk X RX10 cX10_make 15 d) (hdp : 1 ≤ d) (hE : jEnd X (some .int) 0 0 (fun r0 n0 h0 => r0 = (some (.int vE)) ∧ n0 = jN ∧ h0 = jE (jmix r cE))) {k_141 : Nat} (ih_141 : ∀ (v1 : Int32) (v3 : Int32) (v8 : Int32) (v9 : Int32) (v10 : Int32) (v11 : Int32) (c : jS), lpk (fun s : (Int32 × Int32 × Int32 × Int32 × Int32 × Int32 × jS) => m_make_S141 s.1 s.2.1 s.2.2.1 s.2.2.2.1 s.2.2.2.2.1 s.2.2.2.2.2.1 s.2.2.2.2.2.2) k_141 (v1, v3, v8, v9, v10, v11, c) = some (vE, cE) → J X 0 0 jN (jE (jmix r c)) [(0, .ref 30), (1, .int v1), (3, .int v3), (8, .int v8), (9, .int v9), (10, .int v10), (11, .int v11)] [] 141) {k_201 : Nat} {out_201 : ((Int32 × Int32 × Int32 × Int32 × Int32 × Int32 × jS) ⊕ (Int32 × jS))} (ho_201 : lq (fun s : (Int32 × Int32 × Int32 × Int32 × Int32 × Int32 × jS) => m_make_S141 s.1 s.2.1 s.2.2.1 s.2.2.2.1 s.2.2.2.2.1 s.2.2.2.2.2.1 s.2.2.2.2.2.2) k_141 (vE, cE) (some out_201)) (ih_201 : ∀ (v1 : Int32) (v3 : Int32) (v8 : Int32) (v9 : Int32) (v10 : Int32) (v11 : Int32) (v12 : Int32) (v13 : Int32) (c : jS), lpk (fun s : (Int32 × Int32 × Int32 × Int32 × Int32 × Int32 × Int32 × Int32 × jS) => m_make_S201 s.1 s.2.1 s.2.2.1 s.2.2.2.1 s.2.2.2.2.1 s.2.2.2.2.2.1 s.2.2.2.2.2.2.1 s.2.2.2.2.2.2.2.1 s.2.2.2.2.2.2.2.2) k_201 (v1, v3, v8, v9, v10, v11, v12, v13, c) = some out_201 → J X 0 0 jN (jE (jmix r c)) [(0, .ref 30), (1, .int v1), (3, .int v3), (8, .int v8), (9, .int v9), (10, .int v10), (11, .int v11), (12, .int v12), (13, .int v13)] [] 201) : ∀ (v1 : Int32) (v3 : Int32) (v8 : Int32) (v9 : Int32) (v10 : Int32) (v11 : Int32) (v12 : Int32) (v13 : Int32) (c : jS), lq (fun s : (Int32 × Int32 × Int32 × Int32 × Int32 × Int32 × Int32 × Int32 × jS) => m_make_S201 s.1 s.2.1 s.2.2.1 s.2.2.2.1 s.2.2.2.2.1 s.2.2.2.2.2.1 s.2.2.2.2.2.2.1 s.2.2.2.2.2.2.2.1 s.2.2.2.2.2.2.2.2) k_201 out_201 (m_make_P234_201 v1 v3 v8 v9 v10 v11 v12 v13 c) → J X 0 0 jN (jE (jmix r c)) [(0, .ref 30), (1, .int v1), (3, .int v3), (8, .int v8), (9, .int v9), (10, .int v10), (11, .int v11), (12, .int v12), (13, .int v13)] [] 234 := by
  intro v1 v3 v8 v9 v10 v11 v12 v13 c h
  conv at h => arg 4; unfold m_make_P234_201
  refine j_iconst (pc := 234) (v := (0 : Int32)) hX dX10_make_234 (by decide) ?_
  refine j_sub (lv' := [(0, .ref 30), (1, .int v1), (3, .int v3), (8, .int v8), (9, .int v9), (10, .int v10), (11, .int v11), (12, .int v12), (13, .int v13)]) ⟨rfl, rfl, rfl, rfl, rfl, rfl, rfl, rfl, rfl, trivial⟩ ?_
  exact tj_m_make_P235_201 hX hdp hE ih_141 ho_201 ih_201 _ _ _ _ _ _ _ _ _ _ h
set_option maxHeartbeats 4000000 in
set_option maxRecDepth 100000 in
theorem tl_m_make_L201 {X : jX} {d : Nat} {r : jS} {vE : Int32} {cE : jS} (hX : jOk X RX10 cX10_make 15 d) (hdp : 1 ≤ d) (hE : jEnd X (some .int) 0 0 (fun r0 n0 h0 => r0 = (some (.int vE)) ∧ n0 = jN ∧ h0 = jE (jmix r cE))) {k_141 : Nat} (ih_141 : ∀ (v1 : Int32) (v3 : Int32) (v8 : Int32) (v9 : Int32) (v10 : Int32) (v11 : Int32) (c : jS), lpk (fun s : (Int32 × Int32 × Int32 × Int32 × Int32 × Int32 × jS) => m_make_S141 s.1 s.2.1 s.2.2.1 s.2.2.2.1 s.2.2.2.2.1 s.2.2.2.2.2.1 s.2.2.2.2.2.2) k_141 (v1, v3, v8, v9, v10, v11, c) = some (vE, cE) → J X 0 0 jN (jE (jmix r c)) [(0, .ref 30), (1, .int v1), (3, .int v3), (8, .int v8), (9, .int v9), (10, .int v10), (11, .int v11)] [] 141) {out_201 : ((Int32 × Int32 × Int32 × Int32 × Int32 × Int32 × jS) ⊕ (Int32 × jS))} (ho_201 : lq (fun s : (Int32 × Int32 × Int32 × Int32 × Int32 × Int32 × jS) => m_make_S141 s.1 s.2.1 s.2.2.1 s.2.2.2.1 s.2.2.2.2.1 s.2.2.2.2.2.1 s.2.2.2.2.2.2) k_141 (vE, cE) (some out_201)) : ∀ (v1 : Int32) (v3 : Int32) (v8 : Int32) (v9 : Int32) (v10 : Int32) (v11 : Int32) (v12 : Int32) (v13 : Int32) (c : jS), m_make_L201 v1 v3 v8 v9 v10 v11 v12 v13 c = some out_201 → J X 0 0 jN (jE (jmix r c)) [(0, .ref 30), (1, .int v1), (3, .int v3), (8, .int v8), (9, .int v9), (10, .int v10), (11, .int v11), (12, .int v12), (13, .int v13)] [] 201 := by
  intro v1 v3 v8 v9 v10 v11 v12 v13 c h
  unfold m_make_L201 at h
  replace h := lp_some h
  obtain ⟨k_201, h⟩ := h
  induction k_201 generalizing v1 v3 v8 v9 v10 v11 v12 v13 c with
  | zero => cases h
  | succ k_201 ih_201 =>
    replace h : lq (fun s : (Int32 × Int32 × Int32 × Int32 × Int32 × Int32 × Int32 × Int32 × jS) => m_make_S201 s.1 s.2.1 s.2.2.1 s.2.2.2.1 s.2.2.2.2.1 s.2.2.2.2.2.1 s.2.2.2.2.2.2.1 s.2.2.2.2.2.2.2.1 s.2.2.2.2.2.2.2.2) k_201 out_201 (m_make_S201 v1 v3 v8 v9 v10 v11 v12 v13 c) := lpk_succ (s := (v1, v3, v8, v9, v10, v11, v12, v13, c)) h
    conv at h => arg 4; unfold m_make_S201
    refine j_iload (pc := 201) hX dX10_make_201 rfl ?_
    refine j_bipush (pc := 203) (v := (26 : Int32)) hX dX10_make_203 (by decide) ?_
    refine j_icmp_ge (pc := 205) (tgt := 276) hX dX10_make_205 (by decide) (fun z => ?_) (fun z => ?_)
    · replace h := lq_t z h
      refine j_iinc (pc := 276) hX dX10_make_276 rfl (v := (v11 + (1 : Int32))) rfl (by decide) (by decide) ?_
      refine j_goto (pc := 279) (tgt := 141) hX dX10_make_279 (by decide) ?_
      refine j_sub (lv' := [(0, .ref 30), (1, .int v1), (3, .int v3), (8, .int v8), (9, .int v9), (10, .int v10), (11, .int (v11 + (1 : Int32)))]) ⟨rfl, rfl, rfl, rfl, rfl, rfl, rfl, trivial⟩ ?_
      replace h := Option.some.inj (lq_r h)
      subst h
      exact ih_141 _ _ _ _ _ _ _ (lq_l ho_201)
    · replace h := lq_f z h
      refine j_iload (pc := 208) hX dX10_make_208 rfl ?_
      refine j_iload_n (pc := 210) hX dX10_make_210 rfl rfl ?_
      refine j_icmp_ne (pc := 211) (tgt := 234) hX dX10_make_211 (by decide) (fun z => ?_) (fun z => ?_)
      · replace h := lq_f z h
        refine j_sub (lv' := [(0, .ref 30), (1, .int v1), (3, .int v3), (8, .int v8), (9, .int v9), (10, .int v10), (11, .int v11), (12, .int v12), (13, .int v13)]) ⟨rfl, rfl, rfl, rfl, rfl, rfl, rfl, rfl, rfl, trivial⟩ ?_
        exact tj_m_make_P234_201 hX hdp hE ih_141 ho_201 ih_201 _ _ _ _ _ _ _ _ _ h
      · replace h := lq_t z h
        refine j_iload_n (pc := 214) hX dX10_make_214 rfl rfl ?_
        refine j_iconst (pc := 215) (v := (2 : Int32)) hX dX10_make_215 (by decide) ?_
        refine j_icmp_eq (pc := 216) (tgt := 230) hX dX10_make_216 (by decide) (fun z => ?_) (fun z => ?_)
        · replace h := lq_t z h
          refine j_sub (lv' := [(0, .ref 30), (1, .int v1), (3, .int v3), (8, .int v8), (9, .int v9), (10, .int v10), (11, .int v11), (12, .int v12), (13, .int v13)]) ⟨rfl, rfl, rfl, rfl, rfl, rfl, rfl, rfl, rfl, trivial⟩ ?_
          exact tj_m_make_P230_201 hX hdp hE ih_141 ho_201 ih_201 _ _ _ _ _ _ _ _ _ h
        · replace h := lq_f z h
          refine j_iload_n (pc := 219) hX dX10_make_219 rfl rfl ?_
          refine j_iconst (pc := 220) (v := (4 : Int32)) hX dX10_make_220 (by decide) ?_
          refine j_icmp_ne (pc := 221) (tgt := 234) hX dX10_make_221 (by decide) (fun z => ?_) (fun z => ?_)
          · replace h := lq_f z h
            refine j_sub (lv' := [(0, .ref 30), (1, .int v1), (3, .int v3), (8, .int v8), (9, .int v9), (10, .int v10), (11, .int v11), (12, .int v12), (13, .int v13)]) ⟨rfl, rfl, rfl, rfl, rfl, rfl, rfl, rfl, rfl, trivial⟩ ?_
            exact tj_m_make_P234_201 hX hdp hE ih_141 ho_201 ih_201 _ _ _ _ _ _ _ _ _ h
          · replace h := lq_t z h
            refine j_iload (pc := 224) hX dX10_make_224 rfl ?_
            refine j_iconst (pc := 226) (v := (1 : Int32)) hX dX10_make_226 (by decide) ?_
            refine j_icmp_ne (pc := 227) (tgt := 234) hX dX10_make_227 (by decide) (fun z => ?_) (fun z => ?_)
            · replace h := lq_f z h
              refine j_sub (lv' := [(0, .ref 30), (1, .int v1), (3, .int v3), (8, .int v8), (9, .int v9), (10, .int v10), (11, .int v11), (12, .int v12), (13, .int v13)]) ⟨rfl, rfl, rfl, rfl, rfl, rfl, rfl, rfl, rfl, trivial⟩ ?_
              exact tj_m_make_P234_201 hX hdp hE ih_141 ho_201 ih_201 _ _ _ _ _ _ _ _ _ h
            · replace h := lq_t z h
              refine j_sub (lv' := [(0, .ref 30), (1, .int v1), (3, .int v3), (8, .int v8), (9, .int v9), (10, .int v10), (11, .int v11), (12, .int v12), (13, .int v13)]) ⟨rfl, rfl, rfl, rfl, rfl, rfl, rfl, rfl, rfl, trivial⟩ ?_
              exact tj_m_make_P230_201 hX hdp hE ih_141 ho_201 ih_201 _ _ _ _ _ _ _ _ _ h
set_option maxHeartbeats 4000000 in
set_option maxRecDepth 100000 in
theorem tl_m_make_L141 {X : jX} {d : Nat} {r : jS} {vE : Int32} {cE : jS} (hX : jOk X RX10 cX10_make 15 d) (hdp : 1 ≤ d) (hE : jEnd X (some .int) 0 0 (fun r0 n0 h0 => r0 = (some (.int vE)) ∧ n0 = jN ∧ h0 = jE (jmix r cE))) : ∀ (v1 : Int32) (v3 : Int32) (v8 : Int32) (v9 : Int32) (v10 : Int32) (v11 : Int32) (c : jS), m_make_L141 v1 v3 v8 v9 v10 v11 c = some (vE, cE) → J X 0 0 jN (jE (jmix r c)) [(0, .ref 30), (1, .int v1), (3, .int v3), (8, .int v8), (9, .int v9), (10, .int v10), (11, .int v11)] [] 141 := by
  intro v1 v3 v8 v9 v10 v11 c h
  unfold m_make_L141 at h
  replace h := lp_some h
  obtain ⟨k_141, h⟩ := h
  induction k_141 generalizing v1 v3 v8 v9 v10 v11 c with
  | zero => cases h
  | succ k_141 ih_141 =>
    replace h : lq (fun s : (Int32 × Int32 × Int32 × Int32 × Int32 × Int32 × jS) => m_make_S141 s.1 s.2.1 s.2.2.1 s.2.2.2.1 s.2.2.2.2.1 s.2.2.2.2.2.1 s.2.2.2.2.2.2) k_141 (vE, cE) (m_make_S141 v1 v3 v8 v9 v10 v11 c) := lpk_succ (s := (v1, v3, v8, v9, v10, v11, c)) h
    conv at h => arg 4; unfold m_make_S141
    refine j_iload (pc := 141) hX dX10_make_141 rfl ?_
    refine j_iload_n (pc := 143) hX dX10_make_143 rfl rfl ?_
    obtain ⟨r8, h1, h⟩ := lq_ob h
    refine k_callSI (pc := 144) (st := [.int v11]) hX ln_10_122 dX10_make_144 (t_m_partsOf (d := 0) (Nat.le_refl _) h1) rfl rfl (by omega) (Nat.le_of_ble_eq_true rfl) ?_
    refine j_icmp_ge (pc := 147) (tgt := 282) hX dX10_make_147 (by decide) (fun z => ?_) (fun z => ?_)
    · replace h := lq_t z h
      refine j_aload_n (pc := 282) hX dX10_make_282 rfl rfl ?_
      refine k_getR (pc := 283) (q := 40) hX fl_10_45 dX10_make_283 rfl rfl ?_
      refine j_iload (pc := 286) hX dX10_make_286 rfl ?_
      refine j_iload (pc := 288) hX dX10_make_288 rfl ?_
      obtain ⟨hg, h⟩ := lq_gd h
      obtain ⟨c9, hc, h⟩ := lq_lt h
      refine k_iast (pc := 290) (c' := jmix r c9) hX dX10_make_290 rfl hg (jmix_me rfl hc) ?_
      refine j_aload_n (pc := 291) hX dX10_make_291 rfl rfl ?_
      refine k_getR (pc := 292) (q := 41) hX fl_10_48 dX10_make_292 rfl rfl ?_
      refine j_iload (pc := 295) hX dX10_make_295 rfl ?_
      refine j_iload (pc := 297) hX dX10_make_297 rfl ?_
      refine j_iconst (pc := 299) (v := (1 : Int32)) hX dX10_make_299 (by decide) ?_
      refine j_iadd (pc := 300) hX dX10_make_300 ?_
      obtain ⟨hg, h⟩ := lq_gd h
      obtain ⟨c10, hc, h⟩ := lq_lt h
      refine k_iast (pc := 301) (c' := jmix r c10) hX dX10_make_301 rfl hg (jmix_me rfl hc) ?_
      refine j_iload (pc := 302) hX dX10_make_302 rfl ?_
      refine j_sipush (pc := 304) (v := (1000 : Int32)) hX dX10_make_304 (by decide) ?_
      refine j_icmp_gt (pc := 307) (tgt := 319) hX dX10_make_307 (by decide) (fun z => ?_) (fun z => ?_)
      · replace h := lq_t z h
        refine j_bipush (pc := 319) (v := (-3 : Int32)) hX dX10_make_319 (by decide) ?_
        replace h := lq_r h
        obtain ⟨h, h0⟩ := Prod.mk.inj (Option.some.inj h)
        subst h h0
        exact j_iret (pc := 321) hX hE rfl rfl dX10_make_321 (Nat.le_refl 0) (Nat.le_refl 0) ⟨rfl, rfl, rfl⟩
      · replace h := lq_f z h
        refine j_iload (pc := 310) hX dX10_make_310 rfl ?_
        refine j_iconst (pc := 312) (v := (1 : Int32)) hX dX10_make_312 (by decide) ?_
        refine j_iadd (pc := 313) hX dX10_make_313 ?_
        refine j_bipush (pc := 314) (v := (40 : Int32)) hX dX10_make_314 (by decide) ?_
        refine j_icmp_le (pc := 316) (tgt := 322) hX dX10_make_316 (by decide) (fun z => ?_) (fun z => ?_)
        · replace h := lq_t z h
          refine j_aload_n (pc := 322) hX dX10_make_322 rfl rfl ?_
          refine j_dup (pc := 323) hX dX10_make_323 rfl ?_
          refine k_getI (pc := 324) (x := (c10 30 5)) hX fl_10_119 dX10_make_324 rfl rfl rfl ?_
          refine j_iconst (pc := 327) (v := (1 : Int32)) hX dX10_make_327 (by decide) ?_
          refine j_iadd (pc := 328) hX dX10_make_328 ?_
          obtain ⟨c11, hc, h⟩ := lq_lt h
          refine k_putI (pc := 329) (c' := jmix r c11) hX pfl_10_119 dX10_make_329 rfl rfl (fun _ => ⟨rfl, rfl⟩) (jmix_me rfl hc) ?_
          refine j_iload (pc := 332) hX dX10_make_332 rfl ?_
          replace h := lq_r h
          obtain ⟨h, h0⟩ := Prod.mk.inj (Option.some.inj h)
          subst h h0
          exact j_iret (pc := 334) hX hE rfl rfl dX10_make_334 (Nat.le_refl 0) (Nat.le_refl 0) ⟨rfl, rfl, rfl⟩
        · replace h := lq_f z h
          refine j_bipush (pc := 319) (v := (-3 : Int32)) hX dX10_make_319 (by decide) ?_
          replace h := lq_r h
          obtain ⟨h, h0⟩ := Prod.mk.inj (Option.some.inj h)
          subst h h0
          exact j_iret (pc := 321) hX hE rfl rfl dX10_make_321 (Nat.le_refl 0) (Nat.le_refl 0) ⟨rfl, rfl, rfl⟩
    · replace h := lq_f z h
      refine j_aload_n (pc := 150) hX dX10_make_150 rfl rfl ?_
      refine j_iload (pc := 151) hX dX10_make_151 rfl ?_
      refine j_iload (pc := 153) hX dX10_make_153 rfl ?_
      obtain ⟨r12, h1, h⟩ := lq_ob h
      refine k_callVI (pc := 155) (st := []) hX ln_10_126 dX10_make_155 (t_m_part (d := 0) (Nat.le_refl _) h1) rfl rfl rfl (by omega) (Nat.le_of_ble_eq_true rfl) ?_
      refine j_istore (pc := 158) hX dX10_make_158 (by decide) (by decide) ?_
      refine j_iload (pc := 160) hX dX10_make_160 rfl ?_
      refine j_aload_n (pc := 162) hX dX10_make_162 rfl rfl ?_
      refine k_getR (pc := 163) (q := 40) hX fl_10_45 dX10_make_163 rfl rfl ?_
      refine j_iload (pc := 166) hX dX10_make_166 rfl ?_
      obtain ⟨hg, h⟩ := lq_gd h
      refine k_iald (pc := 168) (x := (c 40 (r12).toNatClampNeg)) hX dX10_make_168 rfl hg rfl ?_
      refine j_iadd (pc := 169) hX dX10_make_169 ?_
      refine j_istore (pc := 170) hX dX10_make_170 (by decide) (by decide) ?_
      refine j_aload_n (pc := 172) hX dX10_make_172 rfl rfl ?_
      refine k_getR (pc := 173) (q := 41) hX fl_10_48 dX10_make_173 rfl rfl ?_
      refine j_iload (pc := 176) hX dX10_make_176 rfl ?_
      obtain ⟨hg, h⟩ := lq_gd h
      refine k_iald (pc := 178) (x := (c 41 (r12).toNatClampNeg)) hX dX10_make_178 rfl hg rfl ?_
      refine j_iload (pc := 179) hX dX10_make_179 rfl ?_
      refine j_icmp_le (pc := 181) (tgt := 194) hX dX10_make_181 (by decide) (fun z => ?_) (fun z => ?_)
      · replace h := lq_t z h
        refine j_iload (pc := 194) hX dX10_make_194 rfl ?_
        refine j_istore (pc := 196) hX dX10_make_196 (by decide) (by decide) ?_
        refine j_iconst (pc := 198) (v := (0 : Int32)) hX dX10_make_198 (by decide) ?_
        refine j_istore (pc := 199) hX dX10_make_199 (by decide) (by decide) ?_
        refine j_sub (lv' := [(0, .ref 30), (1, .int v1), (3, .int v3), (8, .int v8), (9, .int (v9 + (c 40 (r12).toNatClampNeg))), (10, .int v10), (11, .int v11), (12, .int r12), (13, .int (0 : Int32))]) ⟨rfl, rfl, rfl, rfl, rfl, rfl, rfl, rfl, rfl, trivial⟩ ?_
        obtain ⟨out, h1, h2⟩ := lq_x h
        exact tl_m_make_L201 hX hdp hE ih_141 h2 _ _ _ _ _ _ _ _ _ h1
      · replace h := lq_f z h
        refine j_aload_n (pc := 184) hX dX10_make_184 rfl rfl ?_
        refine k_getR (pc := 185) (q := 41) hX fl_10_48 dX10_make_185 rfl rfl ?_
        refine j_iload (pc := 188) hX dX10_make_188 rfl ?_
        obtain ⟨hg, h⟩ := lq_gd h
        refine k_iald (pc := 190) (x := (c 41 (r12).toNatClampNeg)) hX dX10_make_190 rfl hg rfl ?_
        refine j_goto (pc := 191) (tgt := 196) hX dX10_make_191 (by decide) ?_
        refine j_istore (pc := 196) hX dX10_make_196 (by decide) (by decide) ?_
        refine j_iconst (pc := 198) (v := (0 : Int32)) hX dX10_make_198 (by decide) ?_
        refine j_istore (pc := 199) hX dX10_make_199 (by decide) (by decide) ?_
        refine j_sub (lv' := [(0, .ref 30), (1, .int v1), (3, .int v3), (8, .int v8), (9, .int (v9 + (c 40 (r12).toNatClampNeg))), (10, .int (c 41 (r12).toNatClampNeg)), (11, .int v11), (12, .int r12), (13, .int (0 : Int32))]) ⟨rfl, rfl, rfl, rfl, rfl, rfl, rfl, rfl, rfl, trivial⟩ ?_
        obtain ⟨out, h1, h2⟩ := lq_x h
        exact tl_m_make_L201 hX hdp hE ih_141 h2 _ _ _ _ _ _ _ _ _ h1
set_option maxHeartbeats 4000000 in
set_option maxRecDepth 100000 in
theorem tl_m_make_L96 {X : jX} {d : Nat} {r : jS} {vE : Int32} {cE : jS} (hX : jOk X RX10 cX10_make 15 d) (hdp : 1 ≤ d) (hE : jEnd X (some .int) 0 0 (fun r0 n0 h0 => r0 = (some (.int vE)) ∧ n0 = jN ∧ h0 = jE (jmix r cE))) : ∀ (v1 : Int32) (v3 : Int32) (v8 : Int32) (v9 : Int32) (v10 : Int32) (v11 : Int32) (c : jS), m_make_L96 v1 v3 v8 v9 v10 v11 c = some (vE, cE) → J X 0 0 jN (jE (jmix r c)) [(0, .ref 30), (1, .int v1), (3, .int v3), (8, .int v8), (9, .int v9), (10, .int v10), (11, .int v11)] [] 96 := by
  intro v1 v3 v8 v9 v10 v11 c h
  unfold m_make_L96 at h
  replace h := lp_some h
  obtain ⟨k_96, h⟩ := h
  induction k_96 generalizing v1 v3 v8 v9 v10 v11 c with
  | zero => cases h
  | succ k_96 ih_96 =>
    replace h : lq (fun s : (Int32 × Int32 × Int32 × Int32 × Int32 × Int32 × jS) => m_make_S96 s.1 s.2.1 s.2.2.1 s.2.2.2.1 s.2.2.2.2.1 s.2.2.2.2.2.1 s.2.2.2.2.2.2) k_96 (vE, cE) (m_make_S96 v1 v3 v8 v9 v10 v11 c) := lpk_succ (s := (v1, v3, v8, v9, v10, v11, c)) h
    conv at h => arg 4; unfold m_make_S96
    refine j_iload (pc := 96) hX dX10_make_96 rfl ?_
    refine j_bipush (pc := 98) (v := (26 : Int32)) hX dX10_make_98 (by decide) ?_
    refine j_icmp_ge (pc := 100) (tgt := 138) hX dX10_make_100 (by decide) (fun z => ?_) (fun z => ?_)
    · replace h := lq_t z h
      refine j_iconst (pc := 138) (v := (0 : Int32)) hX dX10_make_138 (by decide) ?_
      refine j_istore (pc := 139) hX dX10_make_139 (by decide) (by decide) ?_
      refine j_sub (lv' := [(0, .ref 30), (1, .int v1), (3, .int v3), (8, .int v8), (9, .int v9), (10, .int v10), (11, .int (0 : Int32))]) ⟨rfl, rfl, rfl, rfl, rfl, rfl, rfl, trivial⟩ ?_
      exact tl_m_make_L141 hX hdp hE _ _ _ _ _ _ _ (lq_om h)
    · replace h := lq_f z h
      refine j_aload_n (pc := 103) hX dX10_make_103 rfl rfl ?_
      refine k_getR (pc := 104) (q := 42) hX fl_10_51 dX10_make_104 rfl rfl ?_
      refine j_bipush (pc := 107) (v := (26 : Int32)) hX dX10_make_107 (by decide) ?_
      refine j_iload (pc := 109) hX dX10_make_109 rfl ?_
      refine j_imul (pc := 111) hX dX10_make_111 ?_
      refine j_iload (pc := 112) hX dX10_make_112 rfl ?_
      refine j_iadd (pc := 114) hX dX10_make_114 ?_
      refine j_iload_n (pc := 115) hX dX10_make_115 rfl rfl ?_
      refine j_iconst (pc := 116) (v := (1 : Int32)) hX dX10_make_116 (by decide) ?_
      refine j_icmp_ne (pc := 117) (tgt := 130) hX dX10_make_117 (by decide) (fun z => ?_) (fun z => ?_)
      · replace h := lq_f z h
        refine j_iconst (pc := 130) (v := (0 : Int32)) hX dX10_make_130 (by decide) ?_
        obtain ⟨hg, h⟩ := lq_gd h
        obtain ⟨c16, hc, h⟩ := lq_lt h
        refine k_iast (pc := 131) (c' := jmix r c16) hX dX10_make_131 rfl hg (jmix_me rfl hc) ?_
        refine j_iinc (pc := 132) hX dX10_make_132 rfl (v := (v11 + (1 : Int32))) rfl (by decide) (by decide) ?_
        refine j_goto (pc := 135) (tgt := 96) hX dX10_make_135 (by decide) ?_
        refine j_sub (lv' := [(0, .ref 30), (1, .int v1), (3, .int v3), (8, .int v8), (9, .int v9), (10, .int v10), (11, .int (v11 + (1 : Int32)))]) ⟨rfl, rfl, rfl, rfl, rfl, rfl, rfl, trivial⟩ ?_
        exact ih_96 _ _ _ _ _ _ _ (lq_l h)
      · replace h := lq_t z h
        refine j_iload (pc := 120) hX dX10_make_120 rfl ?_
        refine j_iload_n (pc := 122) hX dX10_make_122 rfl rfl ?_
        refine j_icmp_ne (pc := 123) (tgt := 130) hX dX10_make_123 (by decide) (fun z => ?_) (fun z => ?_)
        · replace h := lq_f z h
          refine j_iconst (pc := 130) (v := (0 : Int32)) hX dX10_make_130 (by decide) ?_
          obtain ⟨hg, h⟩ := lq_gd h
          obtain ⟨c17, hc, h⟩ := lq_lt h
          refine k_iast (pc := 131) (c' := jmix r c17) hX dX10_make_131 rfl hg (jmix_me rfl hc) ?_
          refine j_iinc (pc := 132) hX dX10_make_132 rfl (v := (v11 + (1 : Int32))) rfl (by decide) (by decide) ?_
          refine j_goto (pc := 135) (tgt := 96) hX dX10_make_135 (by decide) ?_
          refine j_sub (lv' := [(0, .ref 30), (1, .int v1), (3, .int v3), (8, .int v8), (9, .int v9), (10, .int v10), (11, .int (v11 + (1 : Int32)))]) ⟨rfl, rfl, rfl, rfl, rfl, rfl, rfl, trivial⟩ ?_
          exact ih_96 _ _ _ _ _ _ _ (lq_l h)
        · replace h := lq_t z h
          refine j_iconst (pc := 126) (v := (1 : Int32)) hX dX10_make_126 (by decide) ?_
          refine j_goto (pc := 127) (tgt := 131) hX dX10_make_127 (by decide) ?_
          obtain ⟨hg, h⟩ := lq_gd h
          obtain ⟨c18, hc, h⟩ := lq_lt h
          refine k_iast (pc := 131) (c' := jmix r c18) hX dX10_make_131 rfl hg (jmix_me rfl hc) ?_
          refine j_iinc (pc := 132) hX dX10_make_132 rfl (v := (v11 + (1 : Int32))) rfl (by decide) (by decide) ?_
          refine j_goto (pc := 135) (tgt := 96) hX dX10_make_135 (by decide) ?_
          refine j_sub (lv' := [(0, .ref 30), (1, .int v1), (3, .int v3), (8, .int v8), (9, .int v9), (10, .int v10), (11, .int (v11 + (1 : Int32)))]) ⟨rfl, rfl, rfl, rfl, rfl, rfl, rfl, trivial⟩ ?_
          exact ih_96 _ _ _ _ _ _ _ (lq_l h)
set_option maxHeartbeats 4000000 in
set_option maxRecDepth 100000 in
theorem t_m_make {l : Launch} {D : va_G} {G : Nat → ClassId} {d : Nat} (hdp : 1 ≤ d) {c r : jS} {a1 : Int32} {a2 : Int32} {a3 : Int32} {a4 : Int32} {a5 : Int32} {a6 : Int32} {a7 : Int32} {vE : Int32} {cE : jS} (h : m_make c a1 a2 a3 a4 a5 a6 a7 = some (vE, cE)) : jC l D G d M_m_make [.ref 30, .int a1, .int a2, .int a3, .int a4, .int a5, .int a6, .int a7] (jmix r c) (some (.int vE)) (jmix r cE) := by
  refine jM_of rfl (Nat.le_of_ble_eq_true rfl) ?_
  intro X hl hD hG _ _ hX hE _
  subst hl hD hG
  unfold m_make at h
  show J X 0 0 jN (jE (jmix r c)) [(0, .ref 30), (1, .int a1), (2, .int a2), (3, .int a3), (4, .int a4), (5, .int a5), (6, .int a6), (7, .int a7)] [] 0
  refine j_aload_n (pc := 0) hX dX10_make_0 rfl rfl ?_
  refine k_getI (pc := 1) (x := (c 30 5)) hX fl_10_119 dX10_make_1 rfl rfl rfl ?_
  refine j_istore (pc := 4) hX dX10_make_4 (by decide) (by decide) ?_
  refine j_iload (pc := 6) hX dX10_make_6 rfl ?_
  refine j_sipush (pc := 8) (v := (400 : Int32)) hX dX10_make_8 (by decide) ?_
  refine j_icmp_ne (pc := 11) (tgt := 17) hX dX10_make_11 (by decide) (fun z => ?_) (fun z => ?_)
  · replace h := ite_f z h
    refine j_aload_n (pc := 17) hX dX10_make_17 rfl rfl ?_
    refine k_getR (pc := 18) (q := 35) hX fl_10_30 dX10_make_18 rfl rfl ?_
    refine j_iload (pc := 21) hX dX10_make_21 rfl ?_
    refine j_iload_n (pc := 23) hX dX10_make_23 rfl rfl ?_
    obtain ⟨hg, h⟩ := gd_some h
    obtain ⟨c1, hc, h⟩ := lt_some h
    refine k_iast (pc := 24) (c' := jmix r c1) hX dX10_make_24 rfl hg (jmix_me rfl hc) ?_
    refine j_aload_n (pc := 25) hX dX10_make_25 rfl rfl ?_
    refine k_getR (pc := 26) (q := 36) hX fl_10_33 dX10_make_26 rfl rfl ?_
    refine j_iload (pc := 29) hX dX10_make_29 rfl ?_
    refine j_iload_n (pc := 31) hX dX10_make_31 rfl rfl ?_
    obtain ⟨hg, h⟩ := gd_some h
    obtain ⟨c2, hc, h⟩ := lt_some h
    refine k_iast (pc := 32) (c' := jmix r c2) hX dX10_make_32 rfl hg (jmix_me rfl hc) ?_
    refine j_aload_n (pc := 33) hX dX10_make_33 rfl rfl ?_
    refine k_getR (pc := 34) (q := 37) hX fl_10_36 dX10_make_34 rfl rfl ?_
    refine j_iload (pc := 37) hX dX10_make_37 rfl ?_
    refine j_iload_n (pc := 39) hX dX10_make_39 rfl rfl ?_
    obtain ⟨hg, h⟩ := gd_some h
    obtain ⟨c3, hc, h⟩ := lt_some h
    refine k_iast (pc := 40) (c' := jmix r c3) hX dX10_make_40 rfl hg (jmix_me rfl hc) ?_
    refine j_aload_n (pc := 41) hX dX10_make_41 rfl rfl ?_
    refine k_getR (pc := 42) (q := 38) hX fl_10_39 dX10_make_42 rfl rfl ?_
    refine j_iload (pc := 45) hX dX10_make_45 rfl ?_
    refine j_iload (pc := 47) hX dX10_make_47 rfl ?_
    obtain ⟨hg, h⟩ := gd_some h
    obtain ⟨c4, hc, h⟩ := lt_some h
    refine k_iast (pc := 49) (c' := jmix r c4) hX dX10_make_49 rfl hg (jmix_me rfl hc) ?_
    refine j_aload_n (pc := 50) hX dX10_make_50 rfl rfl ?_
    refine k_getR (pc := 51) (q := 39) hX fl_10_42 dX10_make_51 rfl rfl ?_
    refine j_iconst (pc := 54) (v := (3 : Int32)) hX dX10_make_54 (by decide) ?_
    refine j_iload (pc := 55) hX dX10_make_55 rfl ?_
    refine j_imul (pc := 57) hX dX10_make_57 ?_
    refine j_iload (pc := 58) hX dX10_make_58 rfl ?_
    obtain ⟨hg, h⟩ := gd_some h
    obtain ⟨c5, hc, h⟩ := lt_some h
    refine k_iast (pc := 60) (c' := jmix r c5) hX dX10_make_60 rfl hg (jmix_me rfl hc) ?_
    refine j_aload_n (pc := 61) hX dX10_make_61 rfl rfl ?_
    refine k_getR (pc := 62) (q := 39) hX fl_10_42 dX10_make_62 rfl rfl ?_
    refine j_iconst (pc := 65) (v := (3 : Int32)) hX dX10_make_65 (by decide) ?_
    refine j_iload (pc := 66) hX dX10_make_66 rfl ?_
    refine j_imul (pc := 68) hX dX10_make_68 ?_
    refine j_iconst (pc := 69) (v := (1 : Int32)) hX dX10_make_69 (by decide) ?_
    refine j_iadd (pc := 70) hX dX10_make_70 ?_
    refine j_iload (pc := 71) hX dX10_make_71 rfl ?_
    obtain ⟨hg, h⟩ := gd_some h
    obtain ⟨c6, hc, h⟩ := lt_some h
    refine k_iast (pc := 73) (c' := jmix r c6) hX dX10_make_73 rfl hg (jmix_me rfl hc) ?_
    refine j_aload_n (pc := 74) hX dX10_make_74 rfl rfl ?_
    refine k_getR (pc := 75) (q := 39) hX fl_10_42 dX10_make_75 rfl rfl ?_
    refine j_iconst (pc := 78) (v := (3 : Int32)) hX dX10_make_78 (by decide) ?_
    refine j_iload (pc := 79) hX dX10_make_79 rfl ?_
    refine j_imul (pc := 81) hX dX10_make_81 ?_
    refine j_iconst (pc := 82) (v := (2 : Int32)) hX dX10_make_82 (by decide) ?_
    refine j_iadd (pc := 83) hX dX10_make_83 ?_
    refine j_iload (pc := 84) hX dX10_make_84 rfl ?_
    obtain ⟨hg, h⟩ := gd_some h
    obtain ⟨c7, hc, h⟩ := lt_some h
    refine k_iast (pc := 86) (c' := jmix r c7) hX dX10_make_86 rfl hg (jmix_me rfl hc) ?_
    refine j_iconst (pc := 87) (v := (1 : Int32)) hX dX10_make_87 (by decide) ?_
    refine j_istore (pc := 88) hX dX10_make_88 (by decide) (by decide) ?_
    refine j_iconst (pc := 90) (v := (0 : Int32)) hX dX10_make_90 (by decide) ?_
    refine j_istore (pc := 91) hX dX10_make_91 (by decide) (by decide) ?_
    refine j_iconst (pc := 93) (v := (0 : Int32)) hX dX10_make_93 (by decide) ?_
    refine j_istore (pc := 94) hX dX10_make_94 (by decide) (by decide) ?_
    refine j_sub (lv' := [(0, .ref 30), (1, .int a1), (3, .int a3), (8, .int (c 30 5)), (9, .int (1 : Int32)), (10, .int (0 : Int32)), (11, .int (0 : Int32))]) ⟨rfl, rfl, rfl, rfl, rfl, rfl, rfl, trivial⟩ ?_
    exact tl_m_make_L96 hX hdp hE _ _ _ _ _ _ _ h
  · replace h := ite_t z h
    refine j_bipush (pc := 14) (v := (-3 : Int32)) hX dX10_make_14 (by decide) ?_
    obtain ⟨h, h0⟩ := Prod.mk.inj (Option.some.inj h)
    subst h h0
    exact j_iret (pc := 16) hX hE rfl rfl dX10_make_16 (Nat.le_refl 0) (Nat.le_refl 0) ⟨rfl, rfl, rfl⟩

set_option maxHeartbeats 4000000 in
set_option maxRecDepth 100000 in
theorem t_m_number {l : Launch} {D : va_G} {G : Nat → ClassId} {d : Nat} (hdp : 2 ≤ d) {c r : jS} {a1 : Int32} {vE : Int32} {cE : jS} (h : m_number c a1 = some (vE, cE)) : jC l D G d M_m_number [.ref 30, .int a1] (jmix r c) (some (.int vE)) (jmix r cE) := by
  refine jM_of rfl (Nat.le_of_ble_eq_true rfl) ?_
  intro X hl hD hG _ _ hX hE _
  subst hl hD hG
  unfold m_number at h
  show J X 0 0 jN (jE (jmix r c)) [(0, .ref 30), (1, .int a1)] [] 0
  refine j_aload_n (pc := 0) hX dX10_number_0 rfl rfl ?_
  refine j_iconst (pc := 1) (v := (0 : Int32)) hX dX10_number_1 (by decide) ?_
  refine j_iload_n (pc := 2) hX dX10_number_2 rfl rfl ?_
  refine j_bipush (pc := 3) (v := (-2 : Int32)) hX dX10_number_3 (by decide) ?_
  refine j_bipush (pc := 5) (v := (-2 : Int32)) hX dX10_number_5 (by decide) ?_
  refine j_bipush (pc := 7) (v := (-2 : Int32)) hX dX10_number_7 (by decide) ?_
  refine j_bipush (pc := 9) (v := (-2 : Int32)) hX dX10_number_9 (by decide) ?_
  refine j_bipush (pc := 11) (v := (-2 : Int32)) hX dX10_number_11 (by decide) ?_
  obtain ⟨r1, c2, h1, h⟩ := bd_some h
  refine k_callVI (pc := 13) (st := []) hX ln_10_132 dX10_number_13 (t_m_make (d := 1) (Nat.le_refl _) h1) rfl rfl rfl (by omega) (Nat.le_of_ble_eq_true rfl) ?_
  obtain ⟨h, h0⟩ := Prod.mk.inj (Option.some.inj h)
  subst h h0
  exact j_iret (pc := 16) hX hE rfl rfl dX10_number_16 (Nat.le_refl 0) (Nat.le_refl 0) ⟨rfl, rfl, rfl⟩

set_option maxHeartbeats 4000000 in
set_option maxRecDepth 100000 in
theorem t_m_name {l : Launch} {D : va_G} {G : Nat → ClassId} {d : Nat} (hdp : 2 ≤ d) {c r : jS} {a1 : Int32} {vE : Int32} {cE : jS} (h : m_name c a1 = some (vE, cE)) : jC l D G d M_m_name [.ref 30, .int a1] (jmix r c) (some (.int vE)) (jmix r cE) := by
  refine jM_of rfl (Nat.le_of_ble_eq_true rfl) ?_
  intro X hl hD hG _ _ hX hE _
  subst hl hD hG
  unfold m_name at h
  show J X 0 0 jN (jE (jmix r c)) [(0, .ref 30), (1, .int a1)] [] 0
  refine j_iload_n (pc := 0) hX dX10_name_0 rfl rfl ?_
  obtain ⟨r1, h1, h⟩ := ob_some h
  refine k_callSI (pc := 1) (st := []) hX ln_10_116 dX10_name_1 (t_m_isLetter (d := 1) (Nat.le_refl _) h1) rfl rfl (by omega) (Nat.le_of_ble_eq_true rfl) ?_
  refine j_if_eq (pc := 4) (tgt := 25) hX dX10_name_4 (by decide) (fun z => ?_) (fun z => ?_)
  · replace h := ite_t z h
    refine j_iconst (pc := 25) (v := (-1 : Int32)) hX dX10_name_25 (by decide) ?_
    obtain ⟨h, h0⟩ := Prod.mk.inj (Option.some.inj h)
    subst h h0
    exact j_iret (pc := 26) hX hE rfl rfl dX10_name_26 (Nat.le_refl 0) (Nat.le_refl 0) ⟨rfl, rfl, rfl⟩
  · replace h := ite_f z h
    refine j_aload_n (pc := 7) hX dX10_name_7 rfl rfl ?_
    refine j_iconst (pc := 8) (v := (1 : Int32)) hX dX10_name_8 (by decide) ?_
    refine j_iconst (pc := 9) (v := (0 : Int32)) hX dX10_name_9 (by decide) ?_
    refine j_iload_n (pc := 10) hX dX10_name_10 rfl rfl ?_
    refine j_bipush (pc := 11) (v := (-2 : Int32)) hX dX10_name_11 (by decide) ?_
    refine j_bipush (pc := 13) (v := (-2 : Int32)) hX dX10_name_13 (by decide) ?_
    refine j_bipush (pc := 15) (v := (-2 : Int32)) hX dX10_name_15 (by decide) ?_
    refine j_bipush (pc := 17) (v := (-2 : Int32)) hX dX10_name_17 (by decide) ?_
    obtain ⟨r2, c3, h1, h⟩ := bd_some h
    refine k_callVI (pc := 19) (st := []) hX ln_10_132 dX10_name_19 (t_m_make (d := 1) (Nat.le_refl _) h1) rfl rfl rfl (by omega) (Nat.le_of_ble_eq_true rfl) ?_
    refine j_goto (pc := 22) (tgt := 26) hX dX10_name_22 (by decide) ?_
    obtain ⟨h, h0⟩ := Prod.mk.inj (Option.some.inj h)
    subst h h0
    exact j_iret (pc := 26) hX hE rfl rfl dX10_name_26 (Nat.le_refl 0) (Nat.le_refl 0) ⟨rfl, rfl, rfl⟩

set_option maxHeartbeats 4000000 in
set_option maxRecDepth 100000 in
theorem t_m_function {l : Launch} {D : va_G} {G : Nat → ClassId} {d : Nat} (hdp : 2 ≤ d) {c r : jS} {a1 : Int32} {a2 : Int32} {a3 : Int32} {vE : Int32} {cE : jS} (h : m_function c a1 a2 a3 = some (vE, cE)) : jC l D G d M_m_function [.ref 30, .int a1, .int a2, .int a3] (jmix r c) (some (.int vE)) (jmix r cE) := by
  refine jM_of rfl (Nat.le_of_ble_eq_true rfl) ?_
  intro X hl hD hG _ _ hX hE _
  subst hl hD hG
  unfold m_function at h
  show J X 0 0 jN (jE (jmix r c)) [(0, .ref 30), (1, .int a1), (2, .int a2), (3, .int a3)] [] 0
  refine j_iload_n (pc := 0) hX dX10_function_0 rfl rfl ?_
  obtain ⟨r1, h1, h⟩ := ob_some h
  refine k_callSI (pc := 1) (st := []) hX ln_10_116 dX10_function_1 (t_m_isLetter (d := 1) (Nat.le_refl _) h1) rfl rfl (by omega) (Nat.le_of_ble_eq_true rfl) ?_
  refine j_if_eq (pc := 4) (tgt := 39) hX dX10_function_4 (by decide) (fun z => ?_) (fun z => ?_)
  · replace h := ite_t z h
    refine j_iconst (pc := 39) (v := (-1 : Int32)) hX dX10_function_39 (by decide) ?_
    obtain ⟨h, h0⟩ := Prod.mk.inj (Option.some.inj h)
    subst h h0
    exact j_iret (pc := 40) hX hE rfl rfl dX10_function_40 (Nat.le_refl 0) (Nat.le_refl 0) ⟨rfl, rfl, rfl⟩
  · replace h := ite_f z h
    refine j_aload_n (pc := 7) hX dX10_function_7 rfl rfl ?_
    refine j_iload_n (pc := 8) hX dX10_function_8 rfl rfl ?_
    obtain ⟨r2, h1, h⟩ := ob_some h
    refine k_callVI (pc := 9) (st := []) hX ln_10_108 dX10_function_9 (t_m_isType (d := 1) (Nat.le_refl _) h1) rfl rfl rfl (by omega) (Nat.le_of_ble_eq_true rfl) ?_
    refine j_if_eq (pc := 12) (tgt := 39) hX dX10_function_12 (by decide) (fun z => ?_) (fun z => ?_)
    · replace h := ite_t z h
      refine j_iconst (pc := 39) (v := (-1 : Int32)) hX dX10_function_39 (by decide) ?_
      obtain ⟨h, h0⟩ := Prod.mk.inj (Option.some.inj h)
      subst h h0
      exact j_iret (pc := 40) hX hE rfl rfl dX10_function_40 (Nat.le_refl 0) (Nat.le_refl 0) ⟨rfl, rfl, rfl⟩
    · replace h := ite_f z h
      refine j_aload_n (pc := 15) hX dX10_function_15 rfl rfl ?_
      refine j_iload_n (pc := 16) hX dX10_function_16 rfl rfl ?_
      obtain ⟨r3, h1, h⟩ := ob_some h
      refine k_callVI (pc := 17) (st := []) hX ln_10_136 dX10_function_17 (t_m_isTerm (d := 1) (Nat.le_refl _) h1) rfl rfl rfl (by omega) (Nat.le_of_ble_eq_true rfl) ?_
      refine j_if_eq (pc := 20) (tgt := 39) hX dX10_function_20 (by decide) (fun z => ?_) (fun z => ?_)
      · replace h := ite_t z h
        refine j_iconst (pc := 39) (v := (-1 : Int32)) hX dX10_function_39 (by decide) ?_
        obtain ⟨h, h0⟩ := Prod.mk.inj (Option.some.inj h)
        subst h h0
        exact j_iret (pc := 40) hX hE rfl rfl dX10_function_40 (Nat.le_refl 0) (Nat.le_refl 0) ⟨rfl, rfl, rfl⟩
      · replace h := ite_f z h
        refine j_aload_n (pc := 23) hX dX10_function_23 rfl rfl ?_
        refine j_iconst (pc := 24) (v := (2 : Int32)) hX dX10_function_24 (by decide) ?_
        refine j_iconst (pc := 25) (v := (0 : Int32)) hX dX10_function_25 (by decide) ?_
        refine j_iload_n (pc := 26) hX dX10_function_26 rfl rfl ?_
        refine j_iload_n (pc := 27) hX dX10_function_27 rfl rfl ?_
        refine j_iload_n (pc := 28) hX dX10_function_28 rfl rfl ?_
        refine j_bipush (pc := 29) (v := (-2 : Int32)) hX dX10_function_29 (by decide) ?_
        refine j_bipush (pc := 31) (v := (-2 : Int32)) hX dX10_function_31 (by decide) ?_
        obtain ⟨r4, c5, h1, h⟩ := bd_some h
        refine k_callVI (pc := 33) (st := []) hX ln_10_132 dX10_function_33 (t_m_make (d := 1) (Nat.le_refl _) h1) rfl rfl rfl (by omega) (Nat.le_of_ble_eq_true rfl) ?_
        refine j_goto (pc := 36) (tgt := 40) hX dX10_function_36 (by decide) ?_
        obtain ⟨h, h0⟩ := Prod.mk.inj (Option.some.inj h)
        subst h h0
        exact j_iret (pc := 40) hX hE rfl rfl dX10_function_40 (Nat.le_refl 0) (Nat.le_refl 0) ⟨rfl, rfl, rfl⟩

set_option maxHeartbeats 4000000 in
set_option maxRecDepth 100000 in
theorem t_m_let {l : Launch} {D : va_G} {G : Nat → ClassId} {d : Nat} (hdp : 2 ≤ d) {c r : jS} {a1 : Int32} {a2 : Int32} {a3 : Int32} {vE : Int32} {cE : jS} (h : m_let c a1 a2 a3 = some (vE, cE)) : jC l D G d M_m_let [.ref 30, .int a1, .int a2, .int a3] (jmix r c) (some (.int vE)) (jmix r cE) := by
  refine jM_of rfl (Nat.le_of_ble_eq_true rfl) ?_
  intro X hl hD hG _ _ hX hE _
  subst hl hD hG
  unfold m_let at h
  show J X 0 0 jN (jE (jmix r c)) [(0, .ref 30), (1, .int a1), (2, .int a2), (3, .int a3)] [] 0
  refine j_iload_n (pc := 0) hX dX10_let_0 rfl rfl ?_
  obtain ⟨r1, h1, h⟩ := ob_some h
  refine k_callSI (pc := 1) (st := []) hX ln_10_116 dX10_let_1 (t_m_isLetter (d := 1) (Nat.le_refl _) h1) rfl rfl (by omega) (Nat.le_of_ble_eq_true rfl) ?_
  refine j_if_eq (pc := 4) (tgt := 39) hX dX10_let_4 (by decide) (fun z => ?_) (fun z => ?_)
  · replace h := ite_t z h
    refine j_iconst (pc := 39) (v := (-1 : Int32)) hX dX10_let_39 (by decide) ?_
    obtain ⟨h, h0⟩ := Prod.mk.inj (Option.some.inj h)
    subst h h0
    exact j_iret (pc := 40) hX hE rfl rfl dX10_let_40 (Nat.le_refl 0) (Nat.le_refl 0) ⟨rfl, rfl, rfl⟩
  · replace h := ite_f z h
    refine j_aload_n (pc := 7) hX dX10_let_7 rfl rfl ?_
    refine j_iload_n (pc := 8) hX dX10_let_8 rfl rfl ?_
    obtain ⟨r2, h1, h⟩ := ob_some h
    refine k_callVI (pc := 9) (st := []) hX ln_10_136 dX10_let_9 (t_m_isTerm (d := 1) (Nat.le_refl _) h1) rfl rfl rfl (by omega) (Nat.le_of_ble_eq_true rfl) ?_
    refine j_if_eq (pc := 12) (tgt := 39) hX dX10_let_12 (by decide) (fun z => ?_) (fun z => ?_)
    · replace h := ite_t z h
      refine j_iconst (pc := 39) (v := (-1 : Int32)) hX dX10_let_39 (by decide) ?_
      obtain ⟨h, h0⟩ := Prod.mk.inj (Option.some.inj h)
      subst h h0
      exact j_iret (pc := 40) hX hE rfl rfl dX10_let_40 (Nat.le_refl 0) (Nat.le_refl 0) ⟨rfl, rfl, rfl⟩
    · replace h := ite_f z h
      refine j_aload_n (pc := 15) hX dX10_let_15 rfl rfl ?_
      refine j_iload_n (pc := 16) hX dX10_let_16 rfl rfl ?_
      obtain ⟨r3, h1, h⟩ := ob_some h
      refine k_callVI (pc := 17) (st := []) hX ln_10_136 dX10_let_17 (t_m_isTerm (d := 1) (Nat.le_refl _) h1) rfl rfl rfl (by omega) (Nat.le_of_ble_eq_true rfl) ?_
      refine j_if_eq (pc := 20) (tgt := 39) hX dX10_let_20 (by decide) (fun z => ?_) (fun z => ?_)
      · replace h := ite_t z h
        refine j_iconst (pc := 39) (v := (-1 : Int32)) hX dX10_let_39 (by decide) ?_
        obtain ⟨h, h0⟩ := Prod.mk.inj (Option.some.inj h)
        subst h h0
        exact j_iret (pc := 40) hX hE rfl rfl dX10_let_40 (Nat.le_refl 0) (Nat.le_refl 0) ⟨rfl, rfl, rfl⟩
      · replace h := ite_f z h
        refine j_aload_n (pc := 23) hX dX10_let_23 rfl rfl ?_
        refine j_iconst (pc := 24) (v := (4 : Int32)) hX dX10_let_24 (by decide) ?_
        refine j_iconst (pc := 25) (v := (0 : Int32)) hX dX10_let_25 (by decide) ?_
        refine j_iload_n (pc := 26) hX dX10_let_26 rfl rfl ?_
        refine j_bipush (pc := 27) (v := (-2 : Int32)) hX dX10_let_27 (by decide) ?_
        refine j_iload_n (pc := 29) hX dX10_let_29 rfl rfl ?_
        refine j_iload_n (pc := 30) hX dX10_let_30 rfl rfl ?_
        refine j_bipush (pc := 31) (v := (-2 : Int32)) hX dX10_let_31 (by decide) ?_
        obtain ⟨r4, c5, h1, h⟩ := bd_some h
        refine k_callVI (pc := 33) (st := []) hX ln_10_132 dX10_let_33 (t_m_make (d := 1) (Nat.le_refl _) h1) rfl rfl rfl (by omega) (Nat.le_of_ble_eq_true rfl) ?_
        refine j_goto (pc := 36) (tgt := 40) hX dX10_let_36 (by decide) ?_
        obtain ⟨h, h0⟩ := Prod.mk.inj (Option.some.inj h)
        subst h h0
        exact j_iret (pc := 40) hX hE rfl rfl dX10_let_40 (Nat.le_refl 0) (Nat.le_refl 0) ⟨rfl, rfl, rfl⟩

set_option maxHeartbeats 4000000 in
set_option maxRecDepth 100000 in
theorem tj_m_join_P46 {X : jX} {d : Nat} {r : jS} {vE : Int32} {cE : jS} (hX : jOk X RX10 cX10_join 6 d) (hdp : 2 ≤ d) (hE : jEnd X (some .int) 0 0 (fun r0 n0 h0 => r0 = (some (.int vE)) ∧ n0 = jN ∧ h0 = jE (jmix r cE))) : ∀ (v1 : Int32) (v2 : Int32) (v3 : Int32) (v4 : Int32) (s0 : Int32) (c : jS), m_join_P46 v1 v2 v3 v4 s0 c = some (vE, cE) → J X 0 0 jN (jE (jmix r c)) [(0, .ref 30), (1, .int v1), (2, .int v2), (3, .int v3), (4, .int v4)] [.int s0] 46 := by
  intro v1 v2 v3 v4 s0 c h
  unfold m_join_P46 at h
  refine j_istore (pc := 46) hX dX10_join_46 (by decide) (by decide) ?_
  refine j_iload (pc := 48) hX dX10_join_48 rfl ?_
  refine j_if_eq (pc := 50) (tgt := 81) hX dX10_join_50 (by decide) (fun z => ?_) (fun z => ?_)
  · replace h := ite_t z h
    refine j_iconst (pc := 81) (v := (-1 : Int32)) hX dX10_join_81 (by decide) ?_
    obtain ⟨h, h0⟩ := Prod.mk.inj (Option.some.inj h)
    subst h h0
    exact j_iret (pc := 82) hX hE rfl rfl dX10_join_82 (Nat.le_refl 0) (Nat.le_refl 0) ⟨rfl, rfl, rfl⟩
  · replace h := ite_f z h
    refine j_aload_n (pc := 53) hX dX10_join_53 rfl rfl ?_
    refine j_iload_n (pc := 54) hX dX10_join_54 rfl rfl ?_
    refine j_iconst (pc := 55) (v := (0 : Int32)) hX dX10_join_55 (by decide) ?_
    refine j_bipush (pc := 56) (v := (-2 : Int32)) hX dX10_join_56 (by decide) ?_
    refine j_bipush (pc := 58) (v := (-2 : Int32)) hX dX10_join_58 (by decide) ?_
    refine j_iload_n (pc := 60) hX dX10_join_60 rfl rfl ?_
    refine j_iload_n (pc := 61) hX dX10_join_61 rfl rfl ?_
    refine j_iload_n (pc := 62) hX dX10_join_62 rfl rfl ?_
    refine j_bipush (pc := 63) (v := (6 : Int32)) hX dX10_join_63 (by decide) ?_
    refine j_icmp_ne (pc := 65) (tgt := 73) hX dX10_join_65 (by decide) (fun z => ?_) (fun z => ?_)
    · replace h := ite_f z h
      refine j_bipush (pc := 73) (v := (-2 : Int32)) hX dX10_join_73 (by decide) ?_
      obtain ⟨r2, c3, h1, h⟩ := bd_some h
      refine k_callVI (pc := 75) (st := []) hX ln_10_132 dX10_join_75 (t_m_make (d := 1) (Nat.le_refl _) h1) rfl rfl rfl (by omega) (Nat.le_of_ble_eq_true rfl) ?_
      refine j_goto (pc := 78) (tgt := 82) hX dX10_join_78 (by decide) ?_
      obtain ⟨h, h0⟩ := Prod.mk.inj (Option.some.inj h)
      subst h h0
      exact j_iret (pc := 82) hX hE rfl rfl dX10_join_82 (Nat.le_refl 0) (Nat.le_refl 0) ⟨rfl, rfl, rfl⟩
    · replace h := ite_t z h
      refine j_iload (pc := 68) hX dX10_join_68 rfl ?_
      refine j_goto (pc := 70) (tgt := 75) hX dX10_join_70 (by decide) ?_
      obtain ⟨r4, c5, h1, h⟩ := bd_some h
      refine k_callVI (pc := 75) (st := []) hX ln_10_132 dX10_join_75 (t_m_make (d := 1) (Nat.le_refl _) h1) rfl rfl rfl (by omega) (Nat.le_of_ble_eq_true rfl) ?_
      refine j_goto (pc := 78) (tgt := 82) hX dX10_join_78 (by decide) ?_
      obtain ⟨h, h0⟩ := Prod.mk.inj (Option.some.inj h)
      subst h h0
      exact j_iret (pc := 82) hX hE rfl rfl dX10_join_82 (Nat.le_refl 0) (Nat.le_refl 0) ⟨rfl, rfl, rfl⟩
set_option maxHeartbeats 4000000 in
set_option maxRecDepth 100000 in
theorem tj_m_join_P45 {X : jX} {d : Nat} {r : jS} {vE : Int32} {cE : jS} (hX : jOk X RX10 cX10_join 6 d) (hdp : 2 ≤ d) (hE : jEnd X (some .int) 0 0 (fun r0 n0 h0 => r0 = (some (.int vE)) ∧ n0 = jN ∧ h0 = jE (jmix r cE))) : ∀ (v1 : Int32) (v2 : Int32) (v3 : Int32) (v4 : Int32) (c : jS), m_join_P45 v1 v2 v3 v4 c = some (vE, cE) → J X 0 0 jN (jE (jmix r c)) [(0, .ref 30), (1, .int v1), (2, .int v2), (3, .int v3), (4, .int v4)] [] 45 := by
  intro v1 v2 v3 v4 c h
  unfold m_join_P45 at h
  refine j_iconst (pc := 45) (v := (0 : Int32)) hX dX10_join_45 (by decide) ?_
  refine j_sub (lv' := [(0, .ref 30), (1, .int v1), (2, .int v2), (3, .int v3), (4, .int v4)]) ⟨rfl, rfl, rfl, rfl, rfl, trivial⟩ ?_
  exact tj_m_join_P46 hX hdp hE _ _ _ _ _ _ h
set_option maxHeartbeats 4000000 in
set_option maxRecDepth 100000 in
theorem tj_m_join_P25 {X : jX} {d : Nat} {r : jS} {vE : Int32} {cE : jS} (hX : jOk X RX10 cX10_join 6 d) (hdp : 2 ≤ d) (hE : jEnd X (some .int) 0 0 (fun r0 n0 h0 => r0 = (some (.int vE)) ∧ n0 = jN ∧ h0 = jE (jmix r cE))) : ∀ (v1 : Int32) (v2 : Int32) (v3 : Int32) (v4 : Int32) (c : jS), m_join_P25 v1 v2 v3 v4 c = some (vE, cE) → J X 0 0 jN (jE (jmix r c)) [(0, .ref 30), (1, .int v1), (2, .int v2), (3, .int v3), (4, .int v4)] [] 25 := by
  intro v1 v2 v3 v4 c h
  unfold m_join_P25 at h
  refine j_aload_n (pc := 25) hX dX10_join_25 rfl rfl ?_
  refine j_iload_n (pc := 26) hX dX10_join_26 rfl rfl ?_
  obtain ⟨r1, h1, h⟩ := ob_some h
  refine k_callVI (pc := 27) (st := []) hX ln_10_136 dX10_join_27 (t_m_isTerm (d := 1) (Nat.le_refl _) h1) rfl rfl rfl (by omega) (Nat.le_of_ble_eq_true rfl) ?_
  refine j_if_eq (pc := 30) (tgt := 45) hX dX10_join_30 (by decide) (fun z => ?_) (fun z => ?_)
  · replace h := ite_t z h
    refine j_sub (lv' := [(0, .ref 30), (1, .int v1), (2, .int v2), (3, .int v3), (4, .int v4)]) ⟨rfl, rfl, rfl, rfl, rfl, trivial⟩ ?_
    exact tj_m_join_P45 hX hdp hE _ _ _ _ _ h
  · replace h := ite_f z h
    refine j_aload_n (pc := 33) hX dX10_join_33 rfl rfl ?_
    refine j_iload_n (pc := 34) hX dX10_join_34 rfl rfl ?_
    obtain ⟨r6, h1, h⟩ := ob_some h
    refine k_callVI (pc := 35) (st := []) hX ln_10_136 dX10_join_35 (t_m_isTerm (d := 1) (Nat.le_refl _) h1) rfl rfl rfl (by omega) (Nat.le_of_ble_eq_true rfl) ?_
    refine j_if_eq (pc := 38) (tgt := 45) hX dX10_join_38 (by decide) (fun z => ?_) (fun z => ?_)
    · replace h := ite_t z h
      refine j_sub (lv' := [(0, .ref 30), (1, .int v1), (2, .int v2), (3, .int v3), (4, .int v4)]) ⟨rfl, rfl, rfl, rfl, rfl, trivial⟩ ?_
      exact tj_m_join_P45 hX hdp hE _ _ _ _ _ h
    · replace h := ite_f z h
      refine j_iconst (pc := 41) (v := (1 : Int32)) hX dX10_join_41 (by decide) ?_
      refine j_goto (pc := 42) (tgt := 46) hX dX10_join_42 (by decide) ?_
      refine j_sub (lv' := [(0, .ref 30), (1, .int v1), (2, .int v2), (3, .int v3), (4, .int v4)]) ⟨rfl, rfl, rfl, rfl, rfl, trivial⟩ ?_
      exact tj_m_join_P46 hX hdp hE _ _ _ _ _ _ h
set_option maxHeartbeats 4000000 in
set_option maxRecDepth 100000 in
theorem t_m_join {l : Launch} {D : va_G} {G : Nat → ClassId} {d : Nat} (hdp : 2 ≤ d) {c r : jS} {a1 : Int32} {a2 : Int32} {a3 : Int32} {a4 : Int32} {vE : Int32} {cE : jS} (h : m_join c a1 a2 a3 a4 = some (vE, cE)) : jC l D G d M_m_join [.ref 30, .int a1, .int a2, .int a3, .int a4] (jmix r c) (some (.int vE)) (jmix r cE) := by
  refine jM_of rfl (Nat.le_of_ble_eq_true rfl) ?_
  intro X hl hD hG _ _ hX hE _
  subst hl hD hG
  unfold m_join at h
  show J X 0 0 jN (jE (jmix r c)) [(0, .ref 30), (1, .int a1), (2, .int a2), (3, .int a3), (4, .int a4)] [] 0
  refine j_iload_n (pc := 0) hX dX10_join_0 rfl rfl ?_
  refine j_iconst (pc := 1) (v := (3 : Int32)) hX dX10_join_1 (by decide) ?_
  refine j_icmp_eq (pc := 2) (tgt := 25) hX dX10_join_2 (by decide) (fun z => ?_) (fun z => ?_)
  · replace h := ite_t z h
    refine j_sub (lv' := [(0, .ref 30), (1, .int a1), (2, .int a2), (3, .int a3), (4, .int a4)]) ⟨rfl, rfl, rfl, rfl, rfl, trivial⟩ ?_
    exact tj_m_join_P25 hX hdp hE _ _ _ _ _ h
  · replace h := ite_f z h
    refine j_iload_n (pc := 5) hX dX10_join_5 rfl rfl ?_
    refine j_iconst (pc := 6) (v := (5 : Int32)) hX dX10_join_6 (by decide) ?_
    refine j_icmp_eq (pc := 7) (tgt := 25) hX dX10_join_7 (by decide) (fun z => ?_) (fun z => ?_)
    · replace h := ite_t z h
      refine j_sub (lv' := [(0, .ref 30), (1, .int a1), (2, .int a2), (3, .int a3), (4, .int a4)]) ⟨rfl, rfl, rfl, rfl, rfl, trivial⟩ ?_
      exact tj_m_join_P25 hX hdp hE _ _ _ _ _ h
    · replace h := ite_f z h
      refine j_iload_n (pc := 10) hX dX10_join_10 rfl rfl ?_
      refine j_bipush (pc := 11) (v := (6 : Int32)) hX dX10_join_11 (by decide) ?_
      refine j_icmp_ne (pc := 13) (tgt := 45) hX dX10_join_13 (by decide) (fun z => ?_) (fun z => ?_)
      · replace h := ite_f z h
        refine j_sub (lv' := [(0, .ref 30), (1, .int a1), (2, .int a2), (3, .int a3), (4, .int a4)]) ⟨rfl, rfl, rfl, rfl, rfl, trivial⟩ ?_
        exact tj_m_join_P45 hX hdp hE _ _ _ _ _ h
      · replace h := ite_t z h
        refine j_aload_n (pc := 16) hX dX10_join_16 rfl rfl ?_
        refine j_iload (pc := 17) hX dX10_join_17 rfl ?_
        obtain ⟨r7, h1, h⟩ := ob_some h
        refine k_callVI (pc := 19) (st := []) hX ln_10_136 dX10_join_19 (t_m_isTerm (d := 1) (Nat.le_refl _) h1) rfl rfl rfl (by omega) (Nat.le_of_ble_eq_true rfl) ?_
        refine j_if_eq (pc := 22) (tgt := 45) hX dX10_join_22 (by decide) (fun z => ?_) (fun z => ?_)
        · replace h := ite_t z h
          refine j_sub (lv' := [(0, .ref 30), (1, .int a1), (2, .int a2), (3, .int a3), (4, .int a4)]) ⟨rfl, rfl, rfl, rfl, rfl, trivial⟩ ?_
          exact tj_m_join_P45 hX hdp hE _ _ _ _ _ h
        · replace h := ite_f z h
          refine j_sub (lv' := [(0, .ref 30), (1, .int a1), (2, .int a2), (3, .int a3), (4, .int a4)]) ⟨rfl, rfl, rfl, rfl, rfl, trivial⟩ ?_
          exact tj_m_join_P25 hX hdp hE _ _ _ _ _ h

set_option maxHeartbeats 4000000 in
set_option maxRecDepth 100000 in
theorem t_m_told {l : Launch} {D : va_G} {G : Nat → ClassId} {d : Nat} (hdp : 2 ≤ d) {c r : jS} {a1 : Int32} {a2 : Int32} {vE : Int64} (h : m_told c a1 a2 = some vE) : jC l D G d M_m_told [.ref 30, .int a1, .int a2] (jmix r c) (some (.long vE)) (jmix r c) := by
  refine jM_of rfl (Nat.le_of_ble_eq_true rfl) ?_
  intro X hl hD hG _ _ hX hE _
  subst hl hD hG
  unfold m_told at h
  show J X 0 0 jN (jE (jmix r c)) [(0, .ref 30), (1, .int a1), (2, .int a2)] [] 0
  refine j_aload_n (pc := 0) hX dX10_told_0 rfl rfl ?_
  refine j_iload_n (pc := 1) hX dX10_told_1 rfl rfl ?_
  obtain ⟨r1, h1, h⟩ := ob_some h
  refine k_callVI (pc := 2) (st := []) hX ln_10_136 dX10_told_2 (t_m_isTerm (d := 1) (Nat.le_refl _) h1) rfl rfl rfl (by omega) (Nat.le_of_ble_eq_true rfl) ?_
  refine j_if_eq (pc := 5) (tgt := 18) hX dX10_told_5 (by decide) (fun z => ?_) (fun z => ?_)
  · replace h := ite_t z h
    refine j_ldc2 (pc := 18) (v := (-1 : Int64)) hX dX10_told_18 (mr_17 _ (List.mem_of_getElem? (i := 5) rfl)) ?_
    replace h := Option.some.inj h
    subst h
    exact j_lret (pc := 21) hX hE dX10_told_21 (Nat.le_refl 0) (Nat.le_refl 0) ⟨rfl, rfl, rfl⟩
  · replace h := ite_f z h
    refine j_iload_n (pc := 8) hX dX10_told_8 rfl rfl ?_
    refine j_iconst (pc := 9) (v := (0 : Int32)) hX dX10_told_9 (by decide) ?_
    refine j_bipush (pc := 10) (v := (8 : Int32)) hX dX10_told_10 (by decide) ?_
    obtain ⟨r2, h1, h⟩ := ob_some h
    refine k_callSI (pc := 12) (st := []) hX ln_10_3 dX10_told_12 (t_m_in (d := 0) (Nat.le_refl _) h1) rfl rfl (by omega) (Nat.le_of_ble_eq_true rfl) ?_
    refine j_if_ne (pc := 15) (tgt := 22) hX dX10_told_15 (by decide) (fun z => ?_) (fun z => ?_)
    · replace h := ite_f z h
      refine j_iload_n (pc := 22) hX dX10_told_22 rfl rfl ?_
      by_cases z0 : a2 = 0
      · replace h := ite_t z0 h
        refine j_tabEq (pc := 23) (tgt := 60) 0 hX dX10_told_23 z0 (by decide) (by decide) rfl (by decide) ?_
        refine j_aload_n (pc := 60) hX dX10_told_60 rfl rfl ?_
        refine k_getR (pc := 61) (q := 35) hX fl_10_30 dX10_told_61 rfl rfl ?_
        refine j_iload_n (pc := 64) hX dX10_told_64 rfl rfl ?_
        obtain ⟨hg, h⟩ := gd_some h
        refine k_iald (pc := 65) (x := (c 35 (a1).toNatClampNeg)) hX dX10_told_65 rfl hg rfl ?_
        refine j_i2l (pc := 66) hX dX10_told_66 ?_
        replace h := Option.some.inj h
        subst h
        exact j_lret (pc := 67) hX hE dX10_told_67 (Nat.le_refl 0) (Nat.le_refl 0) ⟨rfl, rfl, rfl⟩
      replace h := ite_f z0 h
      by_cases z1 : a2 = 1
      · replace h := ite_t z1 h
        refine j_tabEq (pc := 23) (tgt := 68) 1 hX dX10_told_23 z1 (by decide) (by decide) rfl (by decide) ?_
        refine j_aload_n (pc := 68) hX dX10_told_68 rfl rfl ?_
        refine k_getR (pc := 69) (q := 40) hX fl_10_45 dX10_told_69 rfl rfl ?_
        refine j_iload_n (pc := 72) hX dX10_told_72 rfl rfl ?_
        obtain ⟨hg, h⟩ := gd_some h
        refine k_iald (pc := 73) (x := (c 40 (a1).toNatClampNeg)) hX dX10_told_73 rfl hg rfl ?_
        refine j_i2l (pc := 74) hX dX10_told_74 ?_
        replace h := Option.some.inj h
        subst h
        exact j_lret (pc := 75) hX hE dX10_told_75 (Nat.le_refl 0) (Nat.le_refl 0) ⟨rfl, rfl, rfl⟩
      replace h := ite_f z1 h
      by_cases z2 : a2 = 2
      · replace h := ite_t z2 h
        refine j_tabEq (pc := 23) (tgt := 76) 2 hX dX10_told_23 z2 (by decide) (by decide) rfl (by decide) ?_
        refine j_aload_n (pc := 76) hX dX10_told_76 rfl rfl ?_
        refine k_getR (pc := 77) (q := 41) hX fl_10_48 dX10_told_77 rfl rfl ?_
        refine j_iload_n (pc := 80) hX dX10_told_80 rfl rfl ?_
        obtain ⟨hg, h⟩ := gd_some h
        refine k_iald (pc := 81) (x := (c 41 (a1).toNatClampNeg)) hX dX10_told_81 rfl hg rfl ?_
        refine j_i2l (pc := 82) hX dX10_told_82 ?_
        replace h := Option.some.inj h
        subst h
        exact j_lret (pc := 83) hX hE dX10_told_83 (Nat.le_refl 0) (Nat.le_refl 0) ⟨rfl, rfl, rfl⟩
      replace h := ite_f z2 h
      by_cases z3 : a2 = 3
      · replace h := ite_t z3 h
        refine j_tabEq (pc := 23) (tgt := 84) 3 hX dX10_told_23 z3 (by decide) (by decide) rfl (by decide) ?_
        refine j_aload_n (pc := 84) hX dX10_told_84 rfl rfl ?_
        refine k_getR (pc := 85) (q := 36) hX fl_10_33 dX10_told_85 rfl rfl ?_
        refine j_iload_n (pc := 88) hX dX10_told_88 rfl rfl ?_
        obtain ⟨hg, h⟩ := gd_some h
        refine k_iald (pc := 89) (x := (c 36 (a1).toNatClampNeg)) hX dX10_told_89 rfl hg rfl ?_
        refine j_i2l (pc := 90) hX dX10_told_90 ?_
        replace h := Option.some.inj h
        subst h
        exact j_lret (pc := 91) hX hE dX10_told_91 (Nat.le_refl 0) (Nat.le_refl 0) ⟨rfl, rfl, rfl⟩
      replace h := ite_f z3 h
      by_cases z4 : a2 = 4
      · replace h := ite_t z4 h
        refine j_tabEq (pc := 23) (tgt := 92) 4 hX dX10_told_23 z4 (by decide) (by decide) rfl (by decide) ?_
        refine j_aload_n (pc := 92) hX dX10_told_92 rfl rfl ?_
        refine k_getR (pc := 93) (q := 37) hX fl_10_36 dX10_told_93 rfl rfl ?_
        refine j_iload_n (pc := 96) hX dX10_told_96 rfl rfl ?_
        obtain ⟨hg, h⟩ := gd_some h
        refine k_iald (pc := 97) (x := (c 37 (a1).toNatClampNeg)) hX dX10_told_97 rfl hg rfl ?_
        refine j_i2l (pc := 98) hX dX10_told_98 ?_
        replace h := Option.some.inj h
        subst h
        exact j_lret (pc := 99) hX hE dX10_told_99 (Nat.le_refl 0) (Nat.le_refl 0) ⟨rfl, rfl, rfl⟩
      replace h := ite_f z4 h
      by_cases z5 : a2 = 5
      · replace h := ite_t z5 h
        refine j_tabEq (pc := 23) (tgt := 100) 5 hX dX10_told_23 z5 (by decide) (by decide) rfl (by decide) ?_
        refine j_aload_n (pc := 100) hX dX10_told_100 rfl rfl ?_
        refine k_getR (pc := 101) (q := 38) hX fl_10_39 dX10_told_101 rfl rfl ?_
        refine j_iload_n (pc := 104) hX dX10_told_104 rfl rfl ?_
        obtain ⟨hg, h⟩ := gd_some h
        refine k_iald (pc := 105) (x := (c 38 (a1).toNatClampNeg)) hX dX10_told_105 rfl hg rfl ?_
        refine j_i2l (pc := 106) hX dX10_told_106 ?_
        replace h := Option.some.inj h
        subst h
        exact j_lret (pc := 107) hX hE dX10_told_107 (Nat.le_refl 0) (Nat.le_refl 0) ⟨rfl, rfl, rfl⟩
      replace h := ite_f z5 h
      refine j_tabOut (pc := 23) (tgt := 108) hX dX10_told_23 (by have yz0 := lv_neT (a := 0) z0 (by decide); have yz1 := lv_neT (a := 1) z1 (by decide); have yz2 := lv_neT (a := 2) z2 (by decide); have yz3 := lv_neT (a := 3) z3 (by decide); have yz4 := lv_neT (a := 4) z4 (by decide); have yz5 := lv_neT (a := 5) z5 (by decide); omega) (by decide) ?_
      refine j_aload_n (pc := 108) hX dX10_told_108 rfl rfl ?_
      refine j_iload_n (pc := 109) hX dX10_told_109 rfl rfl ?_
      refine j_iload_n (pc := 110) hX dX10_told_110 rfl rfl ?_
      refine j_bipush (pc := 111) (v := (6 : Int32)) hX dX10_told_111 (by decide) ?_
      refine j_isub (pc := 113) hX dX10_told_113 ?_
      obtain ⟨r3, h1, h⟩ := ob_some h
      refine k_callVI (pc := 114) (st := []) hX ln_10_126 dX10_told_114 (t_m_part (d := 0) (Nat.le_refl _) h1) rfl rfl rfl (by omega) (Nat.le_of_ble_eq_true rfl) ?_
      refine j_i2l (pc := 117) hX dX10_told_117 ?_
      replace h := Option.some.inj h
      subst h
      exact j_lret (pc := 118) hX hE dX10_told_118 (Nat.le_refl 0) (Nat.le_refl 0) ⟨rfl, rfl, rfl⟩
    · replace h := ite_t z h
      refine j_ldc2 (pc := 18) (v := (-1 : Int64)) hX dX10_told_18 (mr_17 _ (List.mem_of_getElem? (i := 5) rfl)) ?_
      replace h := Option.some.inj h
      subst h
      exact j_lret (pc := 21) hX hE dX10_told_21 (Nat.le_refl 0) (Nat.le_refl 0) ⟨rfl, rfl, rfl⟩

set_option maxHeartbeats 4000000 in
set_option maxRecDepth 100000 in
theorem tl_m_free_L14 {X : jX} {d : Nat} {c r : jS} {vE : Int32} (hX : jOk X RX10 cX10_free 4 d) (hdp : 2 ≤ d) (hE : jEnd X (some .int) 0 0 (fun r0 n0 h0 => r0 = (some (.int vE)) ∧ n0 = jN ∧ h0 = jE (jmix r c))) : ∀ (v1 : Int32) (v2 : Int32) (v3 : Int32), m_free_L14 v1 v2 v3 c = some vE → J X 0 0 jN (jE (jmix r c)) [(0, .ref 30), (1, .int v1), (2, .int v2), (3, .int v3)] [] 14 := by
  intro v1 v2 v3 h
  unfold m_free_L14 at h
  replace h := lp_some h
  obtain ⟨k_14, h⟩ := h
  induction k_14 generalizing v1 v2 v3 with
  | zero => cases h
  | succ k_14 ih_14 =>
    replace h : lq (fun s : (Int32 × Int32 × Int32) => m_free_S14 s.1 s.2.1 s.2.2 c) k_14 vE (m_free_S14 v1 v2 v3 c) := lpk_succ (s := (v1, v2, v3)) h
    conv at h => arg 4; unfold m_free_S14
    refine j_iload_n (pc := 14) hX dX10_free_14 rfl rfl ?_
    refine j_bipush (pc := 15) (v := (26 : Int32)) hX dX10_free_15 (by decide) ?_
    refine j_icmp_ge (pc := 17) (tgt := 45) hX dX10_free_17 (by decide) (fun z => ?_) (fun z => ?_)
    · replace h := lq_t z h
      refine j_iload_n (pc := 45) hX dX10_free_45 rfl rfl ?_
      replace h := lq_r h
      replace h := Option.some.inj h
      subst h
      exact j_iret (pc := 46) hX hE rfl rfl dX10_free_46 (Nat.le_refl 0) (Nat.le_refl 0) ⟨rfl, rfl, rfl⟩
    · replace h := lq_f z h
      refine j_iload_n (pc := 20) hX dX10_free_20 rfl rfl ?_
      refine j_aload_n (pc := 21) hX dX10_free_21 rfl rfl ?_
      refine j_iload_n (pc := 22) hX dX10_free_22 rfl rfl ?_
      refine j_iload_n (pc := 23) hX dX10_free_23 rfl rfl ?_
      obtain ⟨r2, h1, h⟩ := lq_ob h
      refine k_callVI (pc := 24) (st := [.int v2]) hX ln_10_141 dX10_free_24 (t_m_isFree (d := 0) (Nat.le_refl _) h1) rfl rfl rfl (by omega) (Nat.le_of_ble_eq_true rfl) ?_
      refine j_if_eq (pc := 27) (tgt := 36) hX dX10_free_27 (by decide) (fun z => ?_) (fun z => ?_)
      · replace h := lq_t z h
        refine j_iconst (pc := 36) (v := (0 : Int32)) hX dX10_free_36 (by decide) ?_
        refine j_iadd (pc := 37) hX dX10_free_37 ?_
        refine j_istore_n (pc := 38) hX dX10_free_38 rfl (by decide) (by decide) ?_
        refine j_iinc (pc := 39) hX dX10_free_39 rfl (v := (v3 + (1 : Int32))) rfl (by decide) (by decide) ?_
        refine j_goto (pc := 42) (tgt := 14) hX dX10_free_42 (by decide) ?_
        refine j_sub (lv' := [(0, .ref 30), (1, .int v1), (2, .int (v2 + (0 : Int32))), (3, .int (v3 + (1 : Int32)))]) ⟨rfl, rfl, rfl, rfl, trivial⟩ ?_
        exact ih_14 _ _ _ (lq_l h)
      · replace h := lq_f z h
        refine j_iconst (pc := 30) (v := (1 : Int32)) hX dX10_free_30 (by decide) ?_
        refine j_iload_n (pc := 31) hX dX10_free_31 rfl rfl ?_
        refine j_ishl (pc := 32) hX dX10_free_32 ?_
        refine j_goto (pc := 33) (tgt := 37) hX dX10_free_33 (by decide) ?_
        refine j_iadd (pc := 37) hX dX10_free_37 ?_
        refine j_istore_n (pc := 38) hX dX10_free_38 rfl (by decide) (by decide) ?_
        refine j_iinc (pc := 39) hX dX10_free_39 rfl (v := (v3 + (1 : Int32))) rfl (by decide) (by decide) ?_
        refine j_goto (pc := 42) (tgt := 14) hX dX10_free_42 (by decide) ?_
        refine j_sub (lv' := [(0, .ref 30), (1, .int v1), (2, .int (v2 + ((1 : Int32) <<< (v3 &&& 31)))), (3, .int (v3 + (1 : Int32)))]) ⟨rfl, rfl, rfl, rfl, trivial⟩ ?_
        exact ih_14 _ _ _ (lq_l h)
set_option maxHeartbeats 4000000 in
set_option maxRecDepth 100000 in
theorem t_m_free {l : Launch} {D : va_G} {G : Nat → ClassId} {d : Nat} (hdp : 2 ≤ d) {c r : jS} {a1 : Int32} {vE : Int32} (h : m_free c a1 = some vE) : jC l D G d M_m_free [.ref 30, .int a1] (jmix r c) (some (.int vE)) (jmix r c) := by
  refine jM_of rfl (Nat.le_of_ble_eq_true rfl) ?_
  intro X hl hD hG _ _ hX hE _
  subst hl hD hG
  unfold m_free at h
  show J X 0 0 jN (jE (jmix r c)) [(0, .ref 30), (1, .int a1)] [] 0
  refine j_aload_n (pc := 0) hX dX10_free_0 rfl rfl ?_
  refine j_iload_n (pc := 1) hX dX10_free_1 rfl rfl ?_
  obtain ⟨r1, h1, h⟩ := ob_some h
  refine k_callVI (pc := 2) (st := []) hX ln_10_136 dX10_free_2 (t_m_isTerm (d := 1) (Nat.le_refl _) h1) rfl rfl rfl (by omega) (Nat.le_of_ble_eq_true rfl) ?_
  refine j_if_ne (pc := 5) (tgt := 10) hX dX10_free_5 (by decide) (fun z => ?_) (fun z => ?_)
  · replace h := ite_f z h
    refine j_iconst (pc := 10) (v := (0 : Int32)) hX dX10_free_10 (by decide) ?_
    refine j_istore_n (pc := 11) hX dX10_free_11 rfl (by decide) (by decide) ?_
    refine j_iconst (pc := 12) (v := (0 : Int32)) hX dX10_free_12 (by decide) ?_
    refine j_istore_n (pc := 13) hX dX10_free_13 rfl (by decide) (by decide) ?_
    refine j_sub (lv' := [(0, .ref 30), (1, .int a1), (2, .int (0 : Int32)), (3, .int (0 : Int32))]) ⟨rfl, rfl, rfl, rfl, trivial⟩ ?_
    exact tl_m_free_L14 hX hdp hE _ _ _ h
  · replace h := ite_t z h
    refine j_iconst (pc := 8) (v := (-1 : Int32)) hX dX10_free_8 (by decide) ?_
    replace h := Option.some.inj h
    subst h
    exact j_iret (pc := 9) hX hE rfl rfl dX10_free_9 (Nat.le_refl 0) (Nat.le_refl 0) ⟨rfl, rfl, rfl⟩

set_option maxHeartbeats 4000000 in
set_option maxRecDepth 100000 in
theorem t_m_uses {l : Launch} {D : va_G} {G : Nat → ClassId} {d : Nat} (hdp : 2 ≤ d) {c r : jS} {a1 : Int32} {a2 : Int32} {vE : Int32} (h : m_uses c a1 a2 = some vE) : jC l D G d M_m_uses [.ref 30, .int a1, .int a2] (jmix r c) (some (.int vE)) (jmix r c) := by
  refine jM_of rfl (Nat.le_of_ble_eq_true rfl) ?_
  intro X hl hD hG _ _ hX hE _
  subst hl hD hG
  unfold m_uses at h
  show J X 0 0 jN (jE (jmix r c)) [(0, .ref 30), (1, .int a1), (2, .int a2)] [] 0
  refine j_aload_n (pc := 0) hX dX10_uses_0 rfl rfl ?_
  refine j_iload_n (pc := 1) hX dX10_uses_1 rfl rfl ?_
  obtain ⟨r1, h1, h⟩ := ob_some h
  refine k_callVI (pc := 2) (st := []) hX ln_10_136 dX10_uses_2 (t_m_isTerm (d := 1) (Nat.le_refl _) h1) rfl rfl rfl (by omega) (Nat.le_of_ble_eq_true rfl) ?_
  refine j_if_eq (pc := 5) (tgt := 24) hX dX10_uses_5 (by decide) (fun z => ?_) (fun z => ?_)
  · replace h := ite_t z h
    refine j_iconst (pc := 24) (v := (-1 : Int32)) hX dX10_uses_24 (by decide) ?_
    replace h := Option.some.inj h
    subst h
    exact j_iret (pc := 25) hX hE rfl rfl dX10_uses_25 (Nat.le_refl 0) (Nat.le_refl 0) ⟨rfl, rfl, rfl⟩
  · replace h := ite_f z h
    refine j_iload_n (pc := 8) hX dX10_uses_8 rfl rfl ?_
    obtain ⟨r2, h1, h⟩ := ob_some h
    refine k_callSI (pc := 9) (st := []) hX ln_10_116 dX10_uses_9 (t_m_isLetter (d := 1) (Nat.le_refl _) h1) rfl rfl (by omega) (Nat.le_of_ble_eq_true rfl) ?_
    refine j_if_eq (pc := 12) (tgt := 24) hX dX10_uses_12 (by decide) (fun z => ?_) (fun z => ?_)
    · replace h := ite_t z h
      refine j_iconst (pc := 24) (v := (-1 : Int32)) hX dX10_uses_24 (by decide) ?_
      replace h := Option.some.inj h
      subst h
      exact j_iret (pc := 25) hX hE rfl rfl dX10_uses_25 (Nat.le_refl 0) (Nat.le_refl 0) ⟨rfl, rfl, rfl⟩
    · replace h := ite_f z h
      refine j_aload_n (pc := 15) hX dX10_uses_15 rfl rfl ?_
      refine j_iload_n (pc := 16) hX dX10_uses_16 rfl rfl ?_
      refine j_iload_n (pc := 17) hX dX10_uses_17 rfl rfl ?_
      obtain ⟨r3, h1, h⟩ := ob_some h
      refine k_callVI (pc := 18) (st := []) hX ln_10_129 dX10_uses_18 (t_m_freeOf (d := 0) (Nat.le_refl _) h1) rfl rfl rfl (by omega) (Nat.le_of_ble_eq_true rfl) ?_
      refine j_goto (pc := 21) (tgt := 25) hX dX10_uses_21 (by decide) ?_
      replace h := Option.some.inj h
      subst h
      exact j_iret (pc := 25) hX hE rfl rfl dX10_uses_25 (Nat.le_refl 0) (Nat.le_refl 0) ⟨rfl, rfl, rfl⟩

set_option maxHeartbeats 4000000 in
set_option maxRecDepth 100000 in
theorem t_m_push {l : Launch} {D : va_G} {G : Nat → ClassId} {d : Nat} (hdp : 0 ≤ d) {c r : jS} {a1 : Int32} {cE : jS} (h : m_push c a1 = some ((), cE)) : jC l D G d M_m_push [.ref 30, .int a1] (jmix r c) none (jmix r cE) := by
  refine jM_of rfl (Nat.le_of_ble_eq_true rfl) ?_
  intro X hl hD hG _ _ hX hE _
  subst hl hD hG
  unfold m_push at h
  show J X 0 0 jN (jE (jmix r c)) [(0, .ref 30), (1, .int a1)] [] 0
  refine j_aload_n (pc := 0) hX dX10_push_0 rfl rfl ?_
  refine k_getR (pc := 1) (q := 43) hX fl_10_54 dX10_push_1 rfl rfl ?_
  refine j_aload_n (pc := 4) hX dX10_push_4 rfl rfl ?_
  refine k_getI (pc := 5) (x := (c 30 14)) hX fl_10_145 dX10_push_5 rfl rfl rfl ?_
  refine j_iload_n (pc := 8) hX dX10_push_8 rfl rfl ?_
  obtain ⟨hg, h⟩ := gd_some h
  obtain ⟨c1, hc, h⟩ := lt_some h
  refine k_iast (pc := 9) (c' := jmix r c1) hX dX10_push_9 rfl hg (jmix_me rfl hc) ?_
  refine j_aload_n (pc := 10) hX dX10_push_10 rfl rfl ?_
  refine k_getR (pc := 11) (q := 44) hX fl_10_57 dX10_push_11 rfl rfl ?_
  refine j_aload_n (pc := 14) hX dX10_push_14 rfl rfl ?_
  refine k_getI (pc := 15) (x := (c1 30 14)) hX fl_10_145 dX10_push_15 rfl rfl rfl ?_
  refine j_iconst (pc := 18) (v := (0 : Int32)) hX dX10_push_18 (by decide) ?_
  obtain ⟨hg, h⟩ := gd_some h
  obtain ⟨c2, hc, h⟩ := lt_some h
  refine k_iast (pc := 19) (c' := jmix r c2) hX dX10_push_19 rfl hg (jmix_me rfl hc) ?_
  refine j_aload_n (pc := 20) hX dX10_push_20 rfl rfl ?_
  refine k_getR (pc := 21) (q := 45) hX fl_10_60 dX10_push_21 rfl rfl ?_
  refine j_aload_n (pc := 24) hX dX10_push_24 rfl rfl ?_
  refine k_getI (pc := 25) (x := (c2 30 14)) hX fl_10_145 dX10_push_25 rfl rfl rfl ?_
  refine j_bipush (pc := 28) (v := (-2 : Int32)) hX dX10_push_28 (by decide) ?_
  obtain ⟨hg, h⟩ := gd_some h
  obtain ⟨c3, hc, h⟩ := lt_some h
  refine k_iast (pc := 30) (c' := jmix r c3) hX dX10_push_30 rfl hg (jmix_me rfl hc) ?_
  refine j_aload_n (pc := 31) hX dX10_push_31 rfl rfl ?_
  refine k_getR (pc := 32) (q := 46) hX fl_10_63 dX10_push_32 rfl rfl ?_
  refine j_aload_n (pc := 35) hX dX10_push_35 rfl rfl ?_
  refine k_getI (pc := 36) (x := (c3 30 14)) hX fl_10_145 dX10_push_36 rfl rfl rfl ?_
  refine j_bipush (pc := 39) (v := (-2 : Int32)) hX dX10_push_39 (by decide) ?_
  obtain ⟨hg, h⟩ := gd_some h
  obtain ⟨c4, hc, h⟩ := lt_some h
  refine k_iast (pc := 41) (c' := jmix r c4) hX dX10_push_41 rfl hg (jmix_me rfl hc) ?_
  refine j_aload_n (pc := 42) hX dX10_push_42 rfl rfl ?_
  refine k_getR (pc := 43) (q := 47) hX fl_10_66 dX10_push_43 rfl rfl ?_
  refine j_aload_n (pc := 46) hX dX10_push_46 rfl rfl ?_
  refine k_getI (pc := 47) (x := (c4 30 14)) hX fl_10_145 dX10_push_47 rfl rfl rfl ?_
  refine j_bipush (pc := 50) (v := (-2 : Int32)) hX dX10_push_50 (by decide) ?_
  obtain ⟨hg, h⟩ := gd_some h
  obtain ⟨c5, hc, h⟩ := lt_some h
  refine k_iast (pc := 52) (c' := jmix r c5) hX dX10_push_52 rfl hg (jmix_me rfl hc) ?_
  refine j_aload_n (pc := 53) hX dX10_push_53 rfl rfl ?_
  refine j_dup (pc := 54) hX dX10_push_54 rfl ?_
  refine k_getI (pc := 55) (x := (c5 30 14)) hX fl_10_145 dX10_push_55 rfl rfl rfl ?_
  refine j_iconst (pc := 58) (v := (1 : Int32)) hX dX10_push_58 (by decide) ?_
  refine j_iadd (pc := 59) hX dX10_push_59 ?_
  obtain ⟨c6, hc, h⟩ := lt_some h
  refine k_putI (pc := 60) (c' := jmix r c6) hX pfl_10_145 dX10_push_60 rfl rfl (fun _ => ⟨rfl, rfl⟩) (jmix_me rfl hc) ?_
  obtain ⟨_, h⟩ := Prod.mk.inj (Option.some.inj h)
  subst h
  exact j_vret (pc := 63) hX hE dX10_push_63 (Nat.le_refl 0) (Nat.le_refl 0) ⟨rfl, rfl, rfl⟩

set_option maxHeartbeats 4000000 in
set_option maxRecDepth 100000 in
theorem t_m_faults {l : Launch} {D : va_G} {G : Nat → ClassId} {d : Nat} (hdp : 0 ≤ d) {c r : jS} {a1 : Int32} {a2 : Int32} {cE : jS} (h : m_faults c a1 a2 = some ((), cE)) : jC l D G d M_m_faults [.ref 30, .int a1, .int a2] (jmix r c) none (jmix r cE) := by
  refine jM_of rfl (Nat.le_of_ble_eq_true rfl) ?_
  intro X hl hD hG _ _ hX hE _
  subst hl hD hG
  unfold m_faults at h
  show J X 0 0 jN (jE (jmix r c)) [(0, .ref 30), (1, .int a1), (2, .int a2)] [] 0
  refine j_aload_n (pc := 0) hX dX10_faults_0 rfl rfl ?_
  refine j_iload_n (pc := 1) hX dX10_faults_1 rfl rfl ?_
  obtain ⟨c1, hc, h⟩ := lt_some h
  refine k_putI (pc := 2) (c' := jmix r c1) hX pfl_10_148 dX10_faults_2 rfl rfl (fun _ => ⟨rfl, rfl⟩) (jmix_me rfl hc) ?_
  refine j_aload_n (pc := 5) hX dX10_faults_5 rfl rfl ?_
  refine j_iload_n (pc := 6) hX dX10_faults_6 rfl rfl ?_
  obtain ⟨c2, hc, h⟩ := lt_some h
  refine k_putI (pc := 7) (c' := jmix r c2) hX pfl_10_78 dX10_faults_7 rfl rfl (fun _ => ⟨rfl, rfl⟩) (jmix_me rfl hc) ?_
  refine j_aload_n (pc := 10) hX dX10_faults_10 rfl rfl ?_
  refine j_bipush (pc := 11) (v := (-2 : Int32)) hX dX10_faults_11 (by decide) ?_
  obtain ⟨c3, hc, h⟩ := lt_some h
  refine k_putI (pc := 13) (c' := jmix r c3) hX pfl_10_151 dX10_faults_13 rfl rfl (fun _ => ⟨rfl, rfl⟩) (jmix_me rfl hc) ?_
  obtain ⟨_, h⟩ := Prod.mk.inj (Option.some.inj h)
  subst h
  exact j_vret (pc := 16) hX hE dX10_faults_16 (Nat.le_refl 0) (Nat.le_refl 0) ⟨rfl, rfl, rfl⟩

set_option maxHeartbeats 4000000 in
set_option maxRecDepth 100000 in
theorem t_m_binds {l : Launch} {D : va_G} {G : Nat → ClassId} {d : Nat} (hdp : 0 ≤ d) {c r : jS} {a1 : Int32} {a2 : Int32} {a3 : Int32} {cE : jS} (h : m_binds c a1 a2 a3 = some ((), cE)) : jC l D G d M_m_binds [.ref 30, .int a1, .int a2, .int a3] (jmix r c) none (jmix r cE) := by
  refine jM_of rfl (Nat.le_of_ble_eq_true rfl) ?_
  intro X hl hD hG _ _ hX hE _
  subst hl hD hG
  unfold m_binds at h
  show J X 0 0 jN (jE (jmix r c)) [(0, .ref 30), (1, .int a1), (2, .int a2), (3, .int a3)] [] 0
  refine j_aload_n (pc := 0) hX dX10_binds_0 rfl rfl ?_
  refine k_getR (pc := 1) (q := 47) hX fl_10_66 dX10_binds_1 rfl rfl ?_
  refine j_iload_n (pc := 4) hX dX10_binds_4 rfl rfl ?_
  refine j_aload_n (pc := 5) hX dX10_binds_5 rfl rfl ?_
  refine k_getR (pc := 6) (q := 50) hX fl_10_75 dX10_binds_6 rfl rfl ?_
  refine j_iload_n (pc := 9) hX dX10_binds_9 rfl rfl ?_
  obtain ⟨hg, h⟩ := gd_some h
  refine k_iald (pc := 10) (x := (c 50 (a2).toNatClampNeg)) hX dX10_binds_10 rfl hg rfl ?_
  obtain ⟨hg, h⟩ := gd_some h
  obtain ⟨c1, hc, h⟩ := lt_some h
  refine k_iast (pc := 11) (c' := jmix r c1) hX dX10_binds_11 rfl hg (jmix_me rfl hc) ?_
  refine j_aload_n (pc := 12) hX dX10_binds_12 rfl rfl ?_
  refine k_getR (pc := 13) (q := 50) hX fl_10_75 dX10_binds_13 rfl rfl ?_
  refine j_iload_n (pc := 16) hX dX10_binds_16 rfl rfl ?_
  refine j_iload_n (pc := 17) hX dX10_binds_17 rfl rfl ?_
  obtain ⟨hg, h⟩ := gd_some h
  obtain ⟨c2, hc, h⟩ := lt_some h
  refine k_iast (pc := 18) (c' := jmix r c2) hX dX10_binds_18 rfl hg (jmix_me rfl hc) ?_
  obtain ⟨_, h⟩ := Prod.mk.inj (Option.some.inj h)
  subst h
  exact j_vret (pc := 19) hX hE dX10_binds_19 (Nat.le_refl 0) (Nat.le_refl 0) ⟨rfl, rfl, rfl⟩

