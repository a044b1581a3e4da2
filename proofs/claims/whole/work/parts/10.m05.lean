set_option maxHeartbeats 4000000 in
set_option maxRecDepth 100000 in
theorem tl_m_sayNumber_L43 {X : jX} {d : Nat} {r : jS} {cE : jS} (hX : jOk X RX10 cX10_sayNumber 6 d) (hdp : 1 ≤ d) (hE : jEnd X none 0 0 (fun r0 n0 h0 => r0 = none ∧ n0 = jN ∧ h0 = jE (jmix r cE))) : ∀ (v2 : Int64) (v4 : Int64) (c : jS), m_sayNumber_L43 v2 v4 c = some ((), cE) → J X 0 0 jN (jE (jmix r c)) [(0, .ref 30), (2, .long v2), (4, .long v4)] [] 43 := by
  intro v2 v4 c h
  unfold m_sayNumber_L43 at h
  replace h := lp_some h
  obtain ⟨k_43, h⟩ := h
  induction k_43 generalizing v2 v4 c with
  | zero => cases h
  | succ k_43 ih_43 =>
    replace h : lq (fun s : (Int64 × Int64 × jS) => m_sayNumber_S43 s.1 s.2.1 s.2.2) k_43 ((), cE) (m_sayNumber_S43 v2 v4 c) := lpk_succ (s := (v2, v4, c)) h
    conv at h => arg 4; unfold m_sayNumber_S43
    refine j_lload (pc := 43) hX dX10_sayNumber_43 rfl ?_
    refine j_lconst (pc := 45) (v := (0 : Int64)) hX dX10_sayNumber_45 (by decide) ?_
    refine j_lcmp (pc := 46) hX dX10_sayNumber_46 ?_
    refine j_if_le (pc := 47) (tgt := 77) hX dX10_sayNumber_47 (by decide) (fun z => ?_) (fun z => ?_)
    · replace h := lq_t z h
      replace h := lq_r h
      obtain ⟨_, h⟩ := Prod.mk.inj (Option.some.inj h)
      subst h
      exact j_vret (pc := 77) hX hE dX10_sayNumber_77 (Nat.le_refl 0) (Nat.le_refl 0) ⟨rfl, rfl, rfl⟩
    · replace h := lq_f z h
      refine j_aload_n (pc := 50) hX dX10_sayNumber_50 rfl rfl ?_
      refine j_bipush (pc := 51) (v := (48 : Int32)) hX dX10_sayNumber_51 (by decide) ?_
      refine j_lload_n (pc := 53) hX dX10_sayNumber_53 rfl rfl ?_
      refine j_lload (pc := 54) hX dX10_sayNumber_54 rfl ?_
      obtain ⟨hg, h⟩ := lq_gd h
      refine j_ldiv (pc := 56) hX dX10_sayNumber_56 (nz64_ne hg) ?_
      refine j_ldc2 (pc := 57) (v := (10 : Int64)) hX dX10_sayNumber_57 (mr_36 _ (List.mem_of_getElem? (i := 2) rfl)) ?_
      obtain ⟨hg, h⟩ := lq_gd h
      refine j_lrem (pc := 60) hX dX10_sayNumber_60 (nz64_ne hg) ?_
      refine j_l2i (pc := 61) hX dX10_sayNumber_61 ?_
      refine j_iadd (pc := 62) hX dX10_sayNumber_62 ?_
      obtain ⟨_u, c1, h1, h⟩ := lq_bd h
      refine k_callVV (pc := 63) (st := []) hX ln_10_229 dX10_sayNumber_63 (t_m_say (d := 0) (Nat.le_refl _) h1) rfl rfl rfl (by omega) (Nat.le_of_ble_eq_true rfl) ?_
      refine j_lload (pc := 66) hX dX10_sayNumber_66 rfl ?_
      refine j_ldc2 (pc := 68) (v := (10 : Int64)) hX dX10_sayNumber_68 (mr_36 _ (List.mem_of_getElem? (i := 2) rfl)) ?_
      obtain ⟨hg, h⟩ := lq_gd h
      refine j_ldiv (pc := 71) hX dX10_sayNumber_71 (nz64_ne hg) ?_
      refine j_lstore (pc := 72) hX dX10_sayNumber_72 (by decide) (by decide) ?_
      refine j_goto (pc := 74) (tgt := 43) hX dX10_sayNumber_74 (by decide) ?_
      refine j_sub (lv' := [(0, .ref 30), (2, .long v2), (4, .long (v4 / (10 : Int64)))]) ⟨rfl, rfl, rfl, trivial⟩ ?_
      exact ih_43 _ _ _ (lq_l h)
set_option maxHeartbeats 4000000 in
set_option maxRecDepth 100000 in
theorem tl_m_sayNumber_L21 {X : jX} {d : Nat} {r : jS} {cE : jS} (hX : jOk X RX10 cX10_sayNumber 6 d) (hdp : 1 ≤ d) (hE : jEnd X none 0 0 (fun r0 n0 h0 => r0 = none ∧ n0 = jN ∧ h0 = jE (jmix r cE))) : ∀ (v2 : Int64) (v4 : Int64) (c : jS), m_sayNumber_L21 v2 v4 c = some ((), cE) → J X 0 0 jN (jE (jmix r c)) [(0, .ref 30), (2, .long v2), (4, .long v4)] [] 21 := by
  intro v2 v4 c h
  unfold m_sayNumber_L21 at h
  replace h := lp_some h
  obtain ⟨k_21, h⟩ := h
  induction k_21 generalizing v2 v4 c with
  | zero => cases h
  | succ k_21 ih_21 =>
    replace h : lq (fun s : (Int64 × Int64 × jS) => m_sayNumber_S21 s.1 s.2.1 s.2.2) k_21 ((), cE) (m_sayNumber_S21 v2 v4 c) := lpk_succ (s := (v2, v4, c)) h
    conv at h => arg 4; unfold m_sayNumber_S21
    refine j_lload_n (pc := 21) hX dX10_sayNumber_21 rfl rfl ?_
    refine j_lload (pc := 22) hX dX10_sayNumber_22 rfl ?_
    obtain ⟨hg, h⟩ := lq_gd h
    refine j_ldiv (pc := 24) hX dX10_sayNumber_24 (nz64_ne hg) ?_
    refine j_ldc2 (pc := 25) (v := (9 : Int64)) hX dX10_sayNumber_25 (mr_36 _ (List.mem_of_getElem? (i := 1) rfl)) ?_
    refine j_lcmp (pc := 28) hX dX10_sayNumber_28 ?_
    refine j_if_le (pc := 29) (tgt := 43) hX dX10_sayNumber_29 (by decide) (fun z => ?_) (fun z => ?_)
    · replace h := lq_t z h
      refine j_sub (lv' := [(0, .ref 30), (2, .long v2), (4, .long v4)]) ⟨rfl, rfl, rfl, trivial⟩ ?_
      exact tl_m_sayNumber_L43 hX hdp hE _ _ _ (lq_om h)
    · replace h := lq_f z h
      refine j_lload (pc := 32) hX dX10_sayNumber_32 rfl ?_
      refine j_ldc2 (pc := 34) (v := (10 : Int64)) hX dX10_sayNumber_34 (mr_36 _ (List.mem_of_getElem? (i := 2) rfl)) ?_
      refine j_lmul (pc := 37) hX dX10_sayNumber_37 ?_
      refine j_lstore (pc := 38) hX dX10_sayNumber_38 (by decide) (by decide) ?_
      refine j_goto (pc := 40) (tgt := 21) hX dX10_sayNumber_40 (by decide) ?_
      refine j_sub (lv' := [(0, .ref 30), (2, .long v2), (4, .long (v4 * (10 : Int64)))]) ⟨rfl, rfl, rfl, trivial⟩ ?_
      exact ih_21 _ _ _ (lq_l h)
set_option maxHeartbeats 4000000 in
set_option maxRecDepth 100000 in
theorem t_m_sayNumber {l : Launch} {D : va_G} {G : Nat → ClassId} {d : Nat} (hdp : 1 ≤ d) {c r : jS} {a1 : Int32} {cE : jS} (h : m_sayNumber c a1 = some ((), cE)) : jC l D G d M_m_sayNumber [.ref 30, .int a1] (jmix r c) none (jmix r cE) := by
  refine jM_of rfl (Nat.le_of_ble_eq_true rfl) ?_
  intro X hl hD hG _ _ hX hE _
  subst hl hD hG
  unfold m_sayNumber at h
  show J X 0 0 jN (jE (jmix r c)) [(0, .ref 30), (1, .int a1)] [] 0
  refine j_iload_n (pc := 0) hX dX10_sayNumber_0 rfl rfl ?_
  refine j_i2l (pc := 1) hX dX10_sayNumber_1 ?_
  refine j_lstore_n (pc := 2) hX dX10_sayNumber_2 rfl (by decide) (by decide) ?_
  refine j_lload_n (pc := 3) hX dX10_sayNumber_3 rfl rfl ?_
  refine j_lconst (pc := 4) (v := (0 : Int64)) hX dX10_sayNumber_4 (by decide) ?_
  refine j_lcmp (pc := 5) hX dX10_sayNumber_5 ?_
  refine j_if_ge (pc := 6) (tgt := 18) hX dX10_sayNumber_6 (by decide) (fun z => ?_) (fun z => ?_)
  · replace h := ite_t z h
    refine j_lconst (pc := 18) (v := (1 : Int64)) hX dX10_sayNumber_18 (by decide) ?_
    refine j_lstore (pc := 19) hX dX10_sayNumber_19 (by decide) (by decide) ?_
    refine j_sub (lv' := [(0, .ref 30), (2, .long a1.toInt64), (4, .long (1 : Int64))]) ⟨rfl, rfl, rfl, trivial⟩ ?_
    exact tl_m_sayNumber_L21 hX hdp hE _ _ _ h
  · replace h := ite_f z h
    refine j_aload_n (pc := 9) hX dX10_sayNumber_9 rfl rfl ?_
    refine j_bipush (pc := 10) (v := (45 : Int32)) hX dX10_sayNumber_10 (by decide) ?_
    obtain ⟨_u, c2, h1, h⟩ := bd_some h
    refine k_callVV (pc := 12) (st := []) hX ln_10_229 dX10_sayNumber_12 (t_m_say (d := 0) (Nat.le_refl _) h1) rfl rfl rfl (by omega) (Nat.le_of_ble_eq_true rfl) ?_
    refine j_lload_n (pc := 15) hX dX10_sayNumber_15 rfl rfl ?_
    refine j_lneg (pc := 16) hX dX10_sayNumber_16 ?_
    refine j_lstore_n (pc := 17) hX dX10_sayNumber_17 rfl (by decide) (by decide) ?_
    refine j_lconst (pc := 18) (v := (1 : Int64)) hX dX10_sayNumber_18 (by decide) ?_
    refine j_lstore (pc := 19) hX dX10_sayNumber_19 (by decide) (by decide) ?_
    refine j_sub (lv' := [(0, .ref 30), (2, .long (- a1.toInt64)), (4, .long (1 : Int64))]) ⟨rfl, rfl, rfl, trivial⟩ ?_
    exact tl_m_sayNumber_L21 hX hdp hE _ _ _ h

set_option maxHeartbeats 4000000 in
set_option maxRecDepth 100000 in
theorem tj_m_sayType_P86_16 {X : jX} {d : Nat} {r : jS} {cE : jS} (hX : jOk X RX10 cX10_sayType 5 d) (hdp : 1 ≤ d) (hE : jEnd X none 0 0 (fun r0 n0 h0 => r0 = none ∧ n0 = jN ∧ h0 = jE (jmix r cE))) {k_16 : Nat} (ih_16 : ∀ (v2 : Int32) (c : jS), lpk (fun s : (Int32 × jS) => m_sayType_S16 s.1 s.2) k_16 (v2, c) = some ((), cE) → J X 0 0 jN (jE (jmix r c)) [(0, .ref 30), (2, .int v2)] [] 16) : ∀ (v2 : Int32) (v3 : Int32) (v4 : Int32) (s1 : Int32) (c : jS), lq (fun s : (Int32 × jS) => m_sayType_S16 s.1 s.2) k_16 ((), cE) (m_sayType_P86_16 v2 v3 v4 s1 c) → J X 0 0 jN (jE (jmix r c)) [(0, .ref 30), (2, .int v2), (3, .int v3), (4, .int v4)] [.int s1, .ref 30] 86 := by
  intro v2 v3 v4 s1 c h
  conv at h => arg 4; unfold m_sayType_P86_16
  obtain ⟨_u, c5, h1, h⟩ := lq_bd h
  refine k_callVV (pc := 86) (st := []) hX ln_10_229 dX10_sayType_86 (t_m_say (d := 0) (Nat.le_refl _) h1) rfl rfl rfl (by omega) (Nat.le_of_ble_eq_true rfl) ?_
  refine j_aload_n (pc := 89) hX dX10_sayType_89 rfl rfl ?_
  refine k_getR (pc := 90) (q := 57) hX fl_10_99 dX10_sayType_90 rfl rfl ?_
  refine j_iload_n (pc := 93) hX dX10_sayType_93 rfl rfl ?_
  refine j_iload (pc := 94) hX dX10_sayType_94 rfl ?_
  refine j_if_ne (pc := 96) (tgt := 108) hX dX10_sayType_96 (by decide) (fun z => ?_) (fun z => ?_)
  · replace h := lq_f z h
    refine j_aload_n (pc := 108) hX dX10_sayType_108 rfl rfl ?_
    refine k_getR (pc := 109) (q := 32) hX fl_10_21 dX10_sayType_109 rfl rfl ?_
    refine j_iload_n (pc := 112) hX dX10_sayType_112 rfl rfl ?_
    obtain ⟨hg, h⟩ := lq_gd h
    refine k_iald (pc := 113) (x := (c5 32 (v3).toNatClampNeg)) hX dX10_sayType_113 rfl hg rfl ?_
    obtain ⟨hg, h⟩ := lq_gd h
    obtain ⟨c6, hc, h⟩ := lq_lt h
    refine k_iast (pc := 114) (c' := jmix r c6) hX dX10_sayType_114 rfl hg (jmix_me rfl hc) ?_
    refine j_aload_n (pc := 115) hX dX10_sayType_115 rfl rfl ?_
    refine k_getR (pc := 116) (q := 58) hX fl_10_102 dX10_sayType_116 rfl rfl ?_
    refine j_iload_n (pc := 119) hX dX10_sayType_119 rfl rfl ?_
    refine j_iconst (pc := 120) (v := (0 : Int32)) hX dX10_sayType_120 (by decide) ?_
    obtain ⟨hg, h⟩ := lq_gd h
    obtain ⟨c7, hc, h⟩ := lq_lt h
    refine k_iast (pc := 121) (c' := jmix r c7) hX dX10_sayType_121 rfl hg (jmix_me rfl hc) ?_
    refine j_iinc (pc := 122) hX dX10_sayType_122 rfl (v := (v2 + (1 : Int32))) rfl (by decide) (by decide) ?_
    refine j_goto (pc := 125) (tgt := 137) hX dX10_sayType_125 (by decide) ?_
    refine j_goto (pc := 137) (tgt := 16) hX dX10_sayType_137 (by decide) ?_
    refine j_sub (lv' := [(0, .ref 30), (2, .int (v2 + (1 : Int32)))]) ⟨rfl, rfl, trivial⟩ ?_
    exact ih_16 _ _ (lq_l h)
  · replace h := lq_t z h
    refine j_aload_n (pc := 99) hX dX10_sayType_99 rfl rfl ?_
    refine k_getR (pc := 100) (q := 31) hX fl_10_17 dX10_sayType_100 rfl rfl ?_
    refine j_iload_n (pc := 103) hX dX10_sayType_103 rfl rfl ?_
    obtain ⟨hg, h⟩ := lq_gd h
    refine k_iald (pc := 104) (x := (c5 31 (v3).toNatClampNeg)) hX dX10_sayType_104 rfl hg rfl ?_
    refine j_goto (pc := 105) (tgt := 114) hX dX10_sayType_105 (by decide) ?_
    obtain ⟨hg, h⟩ := lq_gd h
    obtain ⟨c8, hc, h⟩ := lq_lt h
    refine k_iast (pc := 114) (c' := jmix r c8) hX dX10_sayType_114 rfl hg (jmix_me rfl hc) ?_
    refine j_aload_n (pc := 115) hX dX10_sayType_115 rfl rfl ?_
    refine k_getR (pc := 116) (q := 58) hX fl_10_102 dX10_sayType_116 rfl rfl ?_
    refine j_iload_n (pc := 119) hX dX10_sayType_119 rfl rfl ?_
    refine j_iconst (pc := 120) (v := (0 : Int32)) hX dX10_sayType_120 (by decide) ?_
    obtain ⟨hg, h⟩ := lq_gd h
    obtain ⟨c9, hc, h⟩ := lq_lt h
    refine k_iast (pc := 121) (c' := jmix r c9) hX dX10_sayType_121 rfl hg (jmix_me rfl hc) ?_
    refine j_iinc (pc := 122) hX dX10_sayType_122 rfl (v := (v2 + (1 : Int32))) rfl (by decide) (by decide) ?_
    refine j_goto (pc := 125) (tgt := 137) hX dX10_sayType_125 (by decide) ?_
    refine j_goto (pc := 137) (tgt := 16) hX dX10_sayType_137 (by decide) ?_
    refine j_sub (lv' := [(0, .ref 30), (2, .int (v2 + (1 : Int32)))]) ⟨rfl, rfl, trivial⟩ ?_
    exact ih_16 _ _ (lq_l h)
set_option maxHeartbeats 4000000 in
set_option maxRecDepth 100000 in
theorem tl_m_sayType_L16 {X : jX} {d : Nat} {r : jS} {cE : jS} (hX : jOk X RX10 cX10_sayType 5 d) (hdp : 1 ≤ d) (hE : jEnd X none 0 0 (fun r0 n0 h0 => r0 = none ∧ n0 = jN ∧ h0 = jE (jmix r cE))) : ∀ (v2 : Int32) (c : jS), m_sayType_L16 v2 c = some ((), cE) → J X 0 0 jN (jE (jmix r c)) [(0, .ref 30), (2, .int v2)] [] 16 := by
  intro v2 c h
  unfold m_sayType_L16 at h
  replace h := lp_some h
  obtain ⟨k_16, h⟩ := h
  induction k_16 generalizing v2 c with
  | zero => cases h
  | succ k_16 ih_16 =>
    replace h : lq (fun s : (Int32 × jS) => m_sayType_S16 s.1 s.2) k_16 ((), cE) (m_sayType_S16 v2 c) := lpk_succ (s := (v2, c)) h
    conv at h => arg 4; unfold m_sayType_S16
    refine j_iload_n (pc := 16) hX dX10_sayType_16 rfl rfl ?_
    refine j_if_le (pc := 17) (tgt := 140) hX dX10_sayType_17 (by decide) (fun z => ?_) (fun z => ?_)
    · replace h := lq_t z h
      replace h := lq_r h
      obtain ⟨_, h⟩ := Prod.mk.inj (Option.some.inj h)
      subst h
      exact j_vret (pc := 140) hX hE dX10_sayType_140 (Nat.le_refl 0) (Nat.le_refl 0) ⟨rfl, rfl, rfl⟩
    · replace h := lq_f z h
      refine j_aload_n (pc := 20) hX dX10_sayType_20 rfl rfl ?_
      refine k_getR (pc := 21) (q := 57) hX fl_10_99 dX10_sayType_21 rfl rfl ?_
      refine j_iload_n (pc := 24) hX dX10_sayType_24 rfl rfl ?_
      refine j_iconst (pc := 25) (v := (1 : Int32)) hX dX10_sayType_25 (by decide) ?_
      refine j_isub (pc := 26) hX dX10_sayType_26 ?_
      obtain ⟨hg, h⟩ := lq_gd h
      refine k_iald (pc := 27) (x := (c 57 ((v2 - (1 : Int32))).toNatClampNeg)) hX dX10_sayType_27 rfl hg rfl ?_
      refine j_istore_n (pc := 28) hX dX10_sayType_28 rfl (by decide) (by decide) ?_
      refine j_aload_n (pc := 29) hX dX10_sayType_29 rfl rfl ?_
      refine k_getR (pc := 30) (q := 58) hX fl_10_102 dX10_sayType_30 rfl rfl ?_
      refine j_iload_n (pc := 33) hX dX10_sayType_33 rfl rfl ?_
      refine j_iconst (pc := 34) (v := (1 : Int32)) hX dX10_sayType_34 (by decide) ?_
      refine j_isub (pc := 35) hX dX10_sayType_35 ?_
      obtain ⟨hg, h⟩ := lq_gd h
      refine k_iald (pc := 36) (x := (c 58 ((v2 - (1 : Int32))).toNatClampNeg)) hX dX10_sayType_36 rfl hg rfl ?_
      refine j_istore (pc := 37) hX dX10_sayType_37 (by decide) (by decide) ?_
      refine j_aload_n (pc := 39) hX dX10_sayType_39 rfl rfl ?_
      refine k_getR (pc := 40) (q := 58) hX fl_10_102 dX10_sayType_40 rfl rfl ?_
      refine j_iload_n (pc := 43) hX dX10_sayType_43 rfl rfl ?_
      refine j_iconst (pc := 44) (v := (1 : Int32)) hX dX10_sayType_44 (by decide) ?_
      refine j_isub (pc := 45) hX dX10_sayType_45 ?_
      refine j_dup2 (pc := 46) hX dX10_sayType_46 rfl rfl ?_
      obtain ⟨hg, h⟩ := lq_gd h
      refine k_iald (pc := 47) (x := (c 58 ((v2 - (1 : Int32))).toNatClampNeg)) hX dX10_sayType_47 rfl hg rfl ?_
      refine j_iconst (pc := 48) (v := (1 : Int32)) hX dX10_sayType_48 (by decide) ?_
      refine j_iadd (pc := 49) hX dX10_sayType_49 ?_
      obtain ⟨hg, h⟩ := lq_gd h
      obtain ⟨c3, hc, h⟩ := lq_lt h
      refine k_iast (pc := 50) (c' := jmix r c3) hX dX10_sayType_50 rfl hg (jmix_me rfl hc) ?_
      refine j_iload_n (pc := 51) hX dX10_sayType_51 rfl rfl ?_
      refine j_if_ne (pc := 52) (tgt := 67) hX dX10_sayType_52 (by decide) (fun z => ?_) (fun z => ?_)
      · replace h := lq_f z h
        refine j_iload (pc := 67) hX dX10_sayType_67 rfl ?_
        refine j_iconst (pc := 69) (v := (2 : Int32)) hX dX10_sayType_69 (by decide) ?_
        refine j_icmp_ge (pc := 70) (tgt := 128) hX dX10_sayType_70 (by decide) (fun z => ?_) (fun z => ?_)
        · replace h := lq_t z h
          refine j_aload_n (pc := 128) hX dX10_sayType_128 rfl rfl ?_
          refine j_bipush (pc := 129) (v := (41 : Int32)) hX dX10_sayType_129 (by decide) ?_
          obtain ⟨_u, c4, h1, h⟩ := lq_bd h
          refine k_callVV (pc := 131) (st := []) hX ln_10_229 dX10_sayType_131 (t_m_say (d := 0) (Nat.le_refl _) h1) rfl rfl rfl (by omega) (Nat.le_of_ble_eq_true rfl) ?_
          refine j_iinc (pc := 134) hX dX10_sayType_134 rfl (v := (v2 - (1 : Int32))) (iinc_m1 _) (by decide) (by decide) ?_
          refine j_goto (pc := 137) (tgt := 16) hX dX10_sayType_137 (by decide) ?_
          refine j_sub (lv' := [(0, .ref 30), (2, .int (v2 - (1 : Int32)))]) ⟨rfl, rfl, trivial⟩ ?_
          exact ih_16 _ _ (lq_l h)
        · replace h := lq_f z h
          refine j_aload_n (pc := 73) hX dX10_sayType_73 rfl rfl ?_
          refine j_iload (pc := 74) hX dX10_sayType_74 rfl ?_
          refine j_if_ne (pc := 76) (tgt := 84) hX dX10_sayType_76 (by decide) (fun z => ?_) (fun z => ?_)
          · replace h := lq_f z h
            refine j_bipush (pc := 84) (v := (62 : Int32)) hX dX10_sayType_84 (by decide) ?_
            refine j_sub (lv' := [(0, .ref 30), (2, .int v2), (3, .int (c 57 ((v2 - (1 : Int32))).toNatClampNeg)), (4, .int (c 58 ((v2 - (1 : Int32))).toNatClampNeg))]) ⟨rfl, rfl, rfl, rfl, trivial⟩ ?_
            exact tj_m_sayType_P86_16 hX hdp hE ih_16 _ _ _ _ _ h
          · replace h := lq_t z h
            refine j_bipush (pc := 79) (v := (40 : Int32)) hX dX10_sayType_79 (by decide) ?_
            refine j_goto (pc := 81) (tgt := 86) hX dX10_sayType_81 (by decide) ?_
            refine j_sub (lv' := [(0, .ref 30), (2, .int v2), (3, .int (c 57 ((v2 - (1 : Int32))).toNatClampNeg)), (4, .int (c 58 ((v2 - (1 : Int32))).toNatClampNeg))]) ⟨rfl, rfl, rfl, rfl, trivial⟩ ?_
            exact tj_m_sayType_P86_16 hX hdp hE ih_16 _ _ _ _ _ h
      · replace h := lq_t z h
        refine j_aload_n (pc := 55) hX dX10_sayType_55 rfl rfl ?_
        refine j_bipush (pc := 56) (v := (105 : Int32)) hX dX10_sayType_56 (by decide) ?_
        obtain ⟨_u, c10, h1, h⟩ := lq_bd h
        refine k_callVV (pc := 58) (st := []) hX ln_10_229 dX10_sayType_58 (t_m_say (d := 0) (Nat.le_refl _) h1) rfl rfl rfl (by omega) (Nat.le_of_ble_eq_true rfl) ?_
        refine j_iinc (pc := 61) hX dX10_sayType_61 rfl (v := (v2 - (1 : Int32))) (iinc_m1 _) (by decide) (by decide) ?_
        refine j_goto (pc := 64) (tgt := 137) hX dX10_sayType_64 (by decide) ?_
        refine j_goto (pc := 137) (tgt := 16) hX dX10_sayType_137 (by decide) ?_
        refine j_sub (lv' := [(0, .ref 30), (2, .int (v2 - (1 : Int32)))]) ⟨rfl, rfl, trivial⟩ ?_
        exact ih_16 _ _ (lq_l h)
set_option maxHeartbeats 4000000 in
set_option maxRecDepth 100000 in
theorem t_m_sayType {l : Launch} {D : va_G} {G : Nat → ClassId} {d : Nat} (hdp : 1 ≤ d) {c r : jS} {a1 : Int32} {cE : jS} (h : m_sayType c a1 = some ((), cE)) : jC l D G d M_m_sayType [.ref 30, .int a1] (jmix r c) none (jmix r cE) := by
  refine jM_of rfl (Nat.le_of_ble_eq_true rfl) ?_
  intro X hl hD hG _ _ hX hE _
  subst hl hD hG
  unfold m_sayType at h
  show J X 0 0 jN (jE (jmix r c)) [(0, .ref 30), (1, .int a1)] [] 0
  refine j_iconst (pc := 0) (v := (1 : Int32)) hX dX10_sayType_0 (by decide) ?_
  refine j_istore_n (pc := 1) hX dX10_sayType_1 rfl (by decide) (by decide) ?_
  refine j_aload_n (pc := 2) hX dX10_sayType_2 rfl rfl ?_
  refine k_getR (pc := 3) (q := 57) hX fl_10_99 dX10_sayType_3 rfl rfl ?_
  refine j_iconst (pc := 6) (v := (0 : Int32)) hX dX10_sayType_6 (by decide) ?_
  refine j_iload_n (pc := 7) hX dX10_sayType_7 rfl rfl ?_
  obtain ⟨hg, h⟩ := gd_some h
  obtain ⟨c1, hc, h⟩ := lt_some h
  refine k_iast (pc := 8) (c' := jmix r c1) hX dX10_sayType_8 rfl hg (jmix_me rfl hc) ?_
  refine j_aload_n (pc := 9) hX dX10_sayType_9 rfl rfl ?_
  refine k_getR (pc := 10) (q := 58) hX fl_10_102 dX10_sayType_10 rfl rfl ?_
  refine j_iconst (pc := 13) (v := (0 : Int32)) hX dX10_sayType_13 (by decide) ?_
  refine j_iconst (pc := 14) (v := (0 : Int32)) hX dX10_sayType_14 (by decide) ?_
  obtain ⟨hg, h⟩ := gd_some h
  obtain ⟨c2, hc, h⟩ := lt_some h
  refine k_iast (pc := 15) (c' := jmix r c2) hX dX10_sayType_15 rfl hg (jmix_me rfl hc) ?_
  refine j_sub (lv' := [(0, .ref 30), (2, .int (1 : Int32))]) ⟨rfl, rfl, trivial⟩ ?_
  exact tl_m_sayType_L16 hX hdp hE _ _ h

set_option maxHeartbeats 4000000 in
set_option maxRecDepth 100000 in
theorem tj_m_sayAt_P164 {X : jX} {d : Nat} {r : jS} {cE : jS} (hX : jOk X RX10 cX10_sayAt 4 d) (hdp : 2 ≤ d) (hE : jEnd X none 0 0 (fun r0 n0 h0 => r0 = none ∧ n0 = jN ∧ h0 = jE (jmix r cE))) : ∀ (v2 : Int32) (v3 : Int32) (c : jS), m_sayAt_P164 v2 v3 c = some ((), cE) → J X 0 0 jN (jE (jmix r c)) [(0, .ref 30), (2, .int v2), (3, .int v3)] [] 164 := by
  intro v2 v3 c h
  unfold m_sayAt_P164 at h
  refine j_aload_n (pc := 164) hX dX10_sayAt_164 rfl rfl ?_
  refine j_iload_n (pc := 165) hX dX10_sayAt_165 rfl rfl ?_
  refine j_if_ne (pc := 166) (tgt := 174) hX dX10_sayAt_166 (by decide) (fun z => ?_) (fun z => ?_)
  · replace h := ite_f z h
    refine j_iload_n (pc := 174) hX dX10_sayAt_174 rfl rfl ?_
    refine j_iconst (pc := 175) (v := (2 : Int32)) hX dX10_sayAt_175 (by decide) ?_
    refine j_icmp_ne (pc := 176) (tgt := 184) hX dX10_sayAt_176 (by decide) (fun z => ?_) (fun z => ?_)
    · replace h := ite_f z h
      refine j_iload_n (pc := 184) hX dX10_sayAt_184 rfl rfl ?_
      refine j_iconst (pc := 185) (v := (3 : Int32)) hX dX10_sayAt_185 (by decide) ?_
      refine j_icmp_ne (pc := 186) (tgt := 194) hX dX10_sayAt_186 (by decide) (fun z => ?_) (fun z => ?_)
      · replace h := ite_f z h
        refine j_bipush (pc := 194) (v := (43 : Int32)) hX dX10_sayAt_194 (by decide) ?_
        obtain ⟨_u, c1, h1, h⟩ := bd_some h
        refine k_callVV (pc := 196) (st := []) hX ln_10_229 dX10_sayAt_196 (t_m_say (d := 0) (Nat.le_refl _) h1) rfl rfl rfl (by omega) (Nat.le_of_ble_eq_true rfl) ?_
        refine j_goto (pc := 199) (tgt := 243) hX dX10_sayAt_199 (by decide) ?_
        obtain ⟨_, h⟩ := Prod.mk.inj (Option.some.inj h)
        subst h
        exact j_vret (pc := 243) hX hE dX10_sayAt_243 (Nat.le_refl 0) (Nat.le_refl 0) ⟨rfl, rfl, rfl⟩
      · replace h := ite_t z h
        refine j_bipush (pc := 189) (v := (32 : Int32)) hX dX10_sayAt_189 (by decide) ?_
        refine j_goto (pc := 191) (tgt := 196) hX dX10_sayAt_191 (by decide) ?_
        obtain ⟨_u, c2, h1, h⟩ := bd_some h
        refine k_callVV (pc := 196) (st := []) hX ln_10_229 dX10_sayAt_196 (t_m_say (d := 0) (Nat.le_refl _) h1) rfl rfl rfl (by omega) (Nat.le_of_ble_eq_true rfl) ?_
        refine j_goto (pc := 199) (tgt := 243) hX dX10_sayAt_199 (by decide) ?_
        obtain ⟨_, h⟩ := Prod.mk.inj (Option.some.inj h)
        subst h
        exact j_vret (pc := 243) hX hE dX10_sayAt_243 (Nat.le_refl 0) (Nat.le_refl 0) ⟨rfl, rfl, rfl⟩
    · replace h := ite_t z h
      refine j_bipush (pc := 179) (v := (41 : Int32)) hX dX10_sayAt_179 (by decide) ?_
      refine j_goto (pc := 181) (tgt := 196) hX dX10_sayAt_181 (by decide) ?_
      obtain ⟨_u, c3, h1, h⟩ := bd_some h
      refine k_callVV (pc := 196) (st := []) hX ln_10_229 dX10_sayAt_196 (t_m_say (d := 0) (Nat.le_refl _) h1) rfl rfl rfl (by omega) (Nat.le_of_ble_eq_true rfl) ?_
      refine j_goto (pc := 199) (tgt := 243) hX dX10_sayAt_199 (by decide) ?_
      obtain ⟨_, h⟩ := Prod.mk.inj (Option.some.inj h)
      subst h
      exact j_vret (pc := 243) hX hE dX10_sayAt_243 (Nat.le_refl 0) (Nat.le_refl 0) ⟨rfl, rfl, rfl⟩
  · replace h := ite_t z h
    refine j_bipush (pc := 169) (v := (40 : Int32)) hX dX10_sayAt_169 (by decide) ?_
    refine j_goto (pc := 171) (tgt := 196) hX dX10_sayAt_171 (by decide) ?_
    obtain ⟨_u, c4, h1, h⟩ := bd_some h
    refine k_callVV (pc := 196) (st := []) hX ln_10_229 dX10_sayAt_196 (t_m_say (d := 0) (Nat.le_refl _) h1) rfl rfl rfl (by omega) (Nat.le_of_ble_eq_true rfl) ?_
    refine j_goto (pc := 199) (tgt := 243) hX dX10_sayAt_199 (by decide) ?_
    obtain ⟨_, h⟩ := Prod.mk.inj (Option.some.inj h)
    subst h
    exact j_vret (pc := 243) hX hE dX10_sayAt_243 (Nat.le_refl 0) (Nat.le_refl 0) ⟨rfl, rfl, rfl⟩
set_option maxHeartbeats 4000000 in
set_option maxRecDepth 100000 in
theorem tj_m_sayAt_P154 {X : jX} {d : Nat} {r : jS} {cE : jS} (hX : jOk X RX10 cX10_sayAt 4 d) (hdp : 2 ≤ d) (hE : jEnd X none 0 0 (fun r0 n0 h0 => r0 = none ∧ n0 = jN ∧ h0 = jE (jmix r cE))) : ∀ (v2 : Int32) (v3 : Int32) (c : jS), m_sayAt_P154 v2 v3 c = some ((), cE) → J X 0 0 jN (jE (jmix r c)) [(0, .ref 30), (2, .int v2), (3, .int v3)] [] 154 := by
  intro v2 v3 c h
  unfold m_sayAt_P154 at h
  refine j_iload_n (pc := 154) hX dX10_sayAt_154 rfl rfl ?_
  refine j_iconst (pc := 155) (v := (3 : Int32)) hX dX10_sayAt_155 (by decide) ?_
  refine j_icmp_eq (pc := 156) (tgt := 164) hX dX10_sayAt_156 (by decide) (fun z => ?_) (fun z => ?_)
  · replace h := ite_t z h
    refine j_sub (lv' := [(0, .ref 30), (2, .int v2), (3, .int v3)]) ⟨rfl, rfl, rfl, trivial⟩ ?_
    exact tj_m_sayAt_P164 hX hdp hE _ _ _ h
  · replace h := ite_f z h
    refine j_iload_n (pc := 159) hX dX10_sayAt_159 rfl rfl ?_
    refine j_iconst (pc := 160) (v := (5 : Int32)) hX dX10_sayAt_160 (by decide) ?_
    refine j_icmp_ne (pc := 161) (tgt := 202) hX dX10_sayAt_161 (by decide) (fun z => ?_) (fun z => ?_)
    · replace h := ite_f z h
      refine j_iload_n (pc := 202) hX dX10_sayAt_202 rfl rfl ?_
      refine j_bipush (pc := 203) (v := (6 : Int32)) hX dX10_sayAt_203 (by decide) ?_
      refine j_icmp_ne (pc := 205) (tgt := 243) hX dX10_sayAt_205 (by decide) (fun z => ?_) (fun z => ?_)
      · replace h := ite_f z h
        obtain ⟨_, h⟩ := Prod.mk.inj (Option.some.inj h)
        subst h
        exact j_vret (pc := 243) hX hE dX10_sayAt_243 (Nat.le_refl 0) (Nat.le_refl 0) ⟨rfl, rfl, rfl⟩
      · replace h := ite_t z h
        refine j_aload_n (pc := 208) hX dX10_sayAt_208 rfl rfl ?_
        refine j_iload_n (pc := 209) hX dX10_sayAt_209 rfl rfl ?_
        refine j_if_ne (pc := 210) (tgt := 218) hX dX10_sayAt_210 (by decide) (fun z => ?_) (fun z => ?_)
        · replace h := ite_f z h
          refine j_iload_n (pc := 218) hX dX10_sayAt_218 rfl rfl ?_
          refine j_iconst (pc := 219) (v := (1 : Int32)) hX dX10_sayAt_219 (by decide) ?_
          refine j_icmp_ne (pc := 220) (tgt := 228) hX dX10_sayAt_220 (by decide) (fun z => ?_) (fun z => ?_)
          · replace h := ite_f z h
            refine j_iload_n (pc := 228) hX dX10_sayAt_228 rfl rfl ?_
            refine j_iconst (pc := 229) (v := (2 : Int32)) hX dX10_sayAt_229 (by decide) ?_
            refine j_icmp_ne (pc := 230) (tgt := 238) hX dX10_sayAt_230 (by decide) (fun z => ?_) (fun z => ?_)
            · replace h := ite_f z h
              refine j_bipush (pc := 238) (v := (125 : Int32)) hX dX10_sayAt_238 (by decide) ?_
              obtain ⟨_u, c5, h1, h⟩ := bd_some h
              refine k_callVV (pc := 240) (st := []) hX ln_10_229 dX10_sayAt_240 (t_m_say (d := 0) (Nat.le_refl _) h1) rfl rfl rfl (by omega) (Nat.le_of_ble_eq_true rfl) ?_
              obtain ⟨_, h⟩ := Prod.mk.inj (Option.some.inj h)
              subst h
              exact j_vret (pc := 243) hX hE dX10_sayAt_243 (Nat.le_refl 0) (Nat.le_refl 0) ⟨rfl, rfl, rfl⟩
            · replace h := ite_t z h
              refine j_bipush (pc := 233) (v := (58 : Int32)) hX dX10_sayAt_233 (by decide) ?_
              refine j_goto (pc := 235) (tgt := 240) hX dX10_sayAt_235 (by decide) ?_
              obtain ⟨_u, c6, h1, h⟩ := bd_some h
              refine k_callVV (pc := 240) (st := []) hX ln_10_229 dX10_sayAt_240 (t_m_say (d := 0) (Nat.le_refl _) h1) rfl rfl rfl (by omega) (Nat.le_of_ble_eq_true rfl) ?_
              obtain ⟨_, h⟩ := Prod.mk.inj (Option.some.inj h)
              subst h
              exact j_vret (pc := 243) hX hE dX10_sayAt_243 (Nat.le_refl 0) (Nat.le_refl 0) ⟨rfl, rfl, rfl⟩
          · replace h := ite_t z h
            refine j_bipush (pc := 223) (v := (63 : Int32)) hX dX10_sayAt_223 (by decide) ?_
            refine j_goto (pc := 225) (tgt := 240) hX dX10_sayAt_225 (by decide) ?_
            obtain ⟨_u, c7, h1, h⟩ := bd_some h
            refine k_callVV (pc := 240) (st := []) hX ln_10_229 dX10_sayAt_240 (t_m_say (d := 0) (Nat.le_refl _) h1) rfl rfl rfl (by omega) (Nat.le_of_ble_eq_true rfl) ?_
            obtain ⟨_, h⟩ := Prod.mk.inj (Option.some.inj h)
            subst h
            exact j_vret (pc := 243) hX hE dX10_sayAt_243 (Nat.le_refl 0) (Nat.le_refl 0) ⟨rfl, rfl, rfl⟩
        · replace h := ite_t z h
          refine j_bipush (pc := 213) (v := (123 : Int32)) hX dX10_sayAt_213 (by decide) ?_
          refine j_goto (pc := 215) (tgt := 240) hX dX10_sayAt_215 (by decide) ?_
          obtain ⟨_u, c8, h1, h⟩ := bd_some h
          refine k_callVV (pc := 240) (st := []) hX ln_10_229 dX10_sayAt_240 (t_m_say (d := 0) (Nat.le_refl _) h1) rfl rfl rfl (by omega) (Nat.le_of_ble_eq_true rfl) ?_
          obtain ⟨_, h⟩ := Prod.mk.inj (Option.some.inj h)
          subst h
          exact j_vret (pc := 243) hX hE dX10_sayAt_243 (Nat.le_refl 0) (Nat.le_refl 0) ⟨rfl, rfl, rfl⟩
    · replace h := ite_t z h
      refine j_sub (lv' := [(0, .ref 30), (2, .int v2), (3, .int v3)]) ⟨rfl, rfl, rfl, trivial⟩ ?_
      exact tj_m_sayAt_P164 hX hdp hE _ _ _ h
set_option maxHeartbeats 4000000 in
set_option maxRecDepth 100000 in
theorem tj_m_sayAt_P135 {X : jX} {d : Nat} {r : jS} {cE : jS} (hX : jOk X RX10 cX10_sayAt 4 d) (hdp : 2 ≤ d) (hE : jEnd X none 0 0 (fun r0 n0 h0 => r0 = none ∧ n0 = jN ∧ h0 = jE (jmix r cE))) : ∀ (v2 : Int32) (v3 : Int32) (c : jS), m_sayAt_P135 v2 v3 c = some ((), cE) → J X 0 0 jN (jE (jmix r c)) [(0, .ref 30), (2, .int v2), (3, .int v3)] [] 135 := by
  intro v2 v3 c h
  unfold m_sayAt_P135 at h
  refine j_iload_n (pc := 135) hX dX10_sayAt_135 rfl rfl ?_
  refine j_iconst (pc := 136) (v := (4 : Int32)) hX dX10_sayAt_136 (by decide) ?_
  refine j_icmp_ne (pc := 137) (tgt := 154) hX dX10_sayAt_137 (by decide) (fun z => ?_) (fun z => ?_)
  · replace h := ite_f z h
    refine j_sub (lv' := [(0, .ref 30), (2, .int v2), (3, .int v3)]) ⟨rfl, rfl, rfl, trivial⟩ ?_
    exact tj_m_sayAt_P154 hX hdp hE _ _ _ h
  · replace h := ite_t z h
    refine j_iload_n (pc := 140) hX dX10_sayAt_140 rfl rfl ?_
    refine j_iconst (pc := 141) (v := (1 : Int32)) hX dX10_sayAt_141 (by decide) ?_
    refine j_icmp_ne (pc := 142) (tgt := 154) hX dX10_sayAt_142 (by decide) (fun z => ?_) (fun z => ?_)
    · replace h := ite_f z h
      refine j_sub (lv' := [(0, .ref 30), (2, .int v2), (3, .int v3)]) ⟨rfl, rfl, rfl, trivial⟩ ?_
      exact tj_m_sayAt_P154 hX hdp hE _ _ _ h
    · replace h := ite_t z h
      refine j_aload_n (pc := 145) hX dX10_sayAt_145 rfl rfl ?_
      refine j_bipush (pc := 146) (v := (93 : Int32)) hX dX10_sayAt_146 (by decide) ?_
      obtain ⟨_u, c9, h1, h⟩ := bd_some h
      refine k_callVV (pc := 148) (st := []) hX ln_10_229 dX10_sayAt_148 (t_m_say (d := 0) (Nat.le_refl _) h1) rfl rfl rfl (by omega) (Nat.le_of_ble_eq_true rfl) ?_
      refine j_goto (pc := 151) (tgt := 243) hX dX10_sayAt_151 (by decide) ?_
      obtain ⟨_, h⟩ := Prod.mk.inj (Option.some.inj h)
      subst h
      exact j_vret (pc := 243) hX hE dX10_sayAt_243 (Nat.le_refl 0) (Nat.le_refl 0) ⟨rfl, rfl, rfl⟩
set_option maxHeartbeats 4000000 in
set_option maxRecDepth 100000 in
theorem tj_m_sayAt_P98 {X : jX} {d : Nat} {r : jS} {cE : jS} (hX : jOk X RX10 cX10_sayAt 4 d) (hdp : 2 ≤ d) (hE : jEnd X none 0 0 (fun r0 n0 h0 => r0 = none ∧ n0 = jN ∧ h0 = jE (jmix r cE))) : ∀ (v1 : Int32) (v2 : Int32) (v3 : Int32) (c : jS), m_sayAt_P98 v1 v2 v3 c = some ((), cE) → J X 0 0 jN (jE (jmix r c)) [(0, .ref 30), (1, .int v1), (2, .int v2), (3, .int v3)] [] 98 := by
  intro v1 v2 v3 c h
  unfold m_sayAt_P98 at h
  refine j_iload_n (pc := 98) hX dX10_sayAt_98 rfl rfl ?_
  refine j_iconst (pc := 99) (v := (4 : Int32)) hX dX10_sayAt_99 (by decide) ?_
  refine j_icmp_ne (pc := 100) (tgt := 135) hX dX10_sayAt_100 (by decide) (fun z => ?_) (fun z => ?_)
  · replace h := ite_f z h
    refine j_sub (lv' := [(0, .ref 30), (2, .int v2), (3, .int v3)]) ⟨rfl, rfl, rfl, trivial⟩ ?_
    exact tj_m_sayAt_P135 hX hdp hE _ _ _ h
  · replace h := ite_t z h
    refine j_iload_n (pc := 103) hX dX10_sayAt_103 rfl rfl ?_
    refine j_if_ne (pc := 104) (tgt := 135) hX dX10_sayAt_104 (by decide) (fun z => ?_) (fun z => ?_)
    · replace h := ite_f z h
      refine j_sub (lv' := [(0, .ref 30), (2, .int v2), (3, .int v3)]) ⟨rfl, rfl, rfl, trivial⟩ ?_
      exact tj_m_sayAt_P135 hX hdp hE _ _ _ h
    · replace h := ite_t z h
      refine j_aload_n (pc := 107) hX dX10_sayAt_107 rfl rfl ?_
      refine j_bipush (pc := 108) (v := (91 : Int32)) hX dX10_sayAt_108 (by decide) ?_
      obtain ⟨_u, c10, h1, h⟩ := bd_some h
      refine k_callVV (pc := 110) (st := []) hX ln_10_229 dX10_sayAt_110 (t_m_say (d := 0) (Nat.le_refl _) h1) rfl rfl rfl (by omega) (Nat.le_of_ble_eq_true rfl) ?_
      refine j_aload_n (pc := 113) hX dX10_sayAt_113 rfl rfl ?_
      refine j_bipush (pc := 114) (v := (97 : Int32)) hX dX10_sayAt_114 (by decide) ?_
      refine j_aload_n (pc := 116) hX dX10_sayAt_116 rfl rfl ?_
      refine k_getR (pc := 117) (q := 37) hX fl_10_36 dX10_sayAt_117 rfl rfl ?_
      refine j_iload_n (pc := 120) hX dX10_sayAt_120 rfl rfl ?_
      obtain ⟨hg, h⟩ := gd_some h
      refine k_iald (pc := 121) (x := (c10 37 (v1).toNatClampNeg)) hX dX10_sayAt_121 rfl hg rfl ?_
      refine j_iadd (pc := 122) hX dX10_sayAt_122 ?_
      obtain ⟨_u, c11, h1, h⟩ := bd_some h
      refine k_callVV (pc := 123) (st := []) hX ln_10_229 dX10_sayAt_123 (t_m_say (d := 0) (Nat.le_refl _) h1) rfl rfl rfl (by omega) (Nat.le_of_ble_eq_true rfl) ?_
      refine j_aload_n (pc := 126) hX dX10_sayAt_126 rfl rfl ?_
      refine j_bipush (pc := 127) (v := (61 : Int32)) hX dX10_sayAt_127 (by decide) ?_
      obtain ⟨_u, c12, h1, h⟩ := bd_some h
      refine k_callVV (pc := 129) (st := []) hX ln_10_229 dX10_sayAt_129 (t_m_say (d := 0) (Nat.le_refl _) h1) rfl rfl rfl (by omega) (Nat.le_of_ble_eq_true rfl) ?_
      refine j_goto (pc := 132) (tgt := 243) hX dX10_sayAt_132 (by decide) ?_
      obtain ⟨_, h⟩ := Prod.mk.inj (Option.some.inj h)
      subst h
      exact j_vret (pc := 243) hX hE dX10_sayAt_243 (Nat.le_refl 0) (Nat.le_refl 0) ⟨rfl, rfl, rfl⟩
set_option maxHeartbeats 4000000 in
set_option maxRecDepth 100000 in
theorem t_m_sayAt {l : Launch} {D : va_G} {G : Nat → ClassId} {d : Nat} (hdp : 2 ≤ d) {c r : jS} {a1 : Int32} {a2 : Int32} {cE : jS} (h : m_sayAt c a1 a2 = some ((), cE)) : jC l D G d M_m_sayAt [.ref 30, .int a1, .int a2] (jmix r c) none (jmix r cE) := by
  refine jM_of rfl (Nat.le_of_ble_eq_true rfl) ?_
  intro X hl hD hG _ _ hX hE _
  subst hl hD hG
  unfold m_sayAt at h
  show J X 0 0 jN (jE (jmix r c)) [(0, .ref 30), (1, .int a1), (2, .int a2)] [] 0
  refine j_aload_n (pc := 0) hX dX10_sayAt_0 rfl rfl ?_
  refine k_getR (pc := 1) (q := 35) hX fl_10_30 dX10_sayAt_1 rfl rfl ?_
  refine j_iload_n (pc := 4) hX dX10_sayAt_4 rfl rfl ?_
  obtain ⟨hg, h⟩ := gd_some h
  refine k_iald (pc := 5) (x := (c 35 (a1).toNatClampNeg)) hX dX10_sayAt_5 rfl hg rfl ?_
  refine j_istore_n (pc := 6) hX dX10_sayAt_6 rfl (by decide) (by decide) ?_
  refine j_iload_n (pc := 7) hX dX10_sayAt_7 rfl rfl ?_
  refine j_if_ne (pc := 8) (tgt := 24) hX dX10_sayAt_8 (by decide) (fun z => ?_) (fun z => ?_)
  · replace h := ite_f z h
    refine j_iload_n (pc := 24) hX dX10_sayAt_24 rfl rfl ?_
    refine j_iconst (pc := 25) (v := (1 : Int32)) hX dX10_sayAt_25 (by decide) ?_
    refine j_icmp_ne (pc := 26) (tgt := 45) hX dX10_sayAt_26 (by decide) (fun z => ?_) (fun z => ?_)
    · replace h := ite_f z h
      refine j_iload_n (pc := 45) hX dX10_sayAt_45 rfl rfl ?_
      refine j_iconst (pc := 46) (v := (2 : Int32)) hX dX10_sayAt_46 (by decide) ?_
      refine j_icmp_ne (pc := 47) (tgt := 98) hX dX10_sayAt_47 (by decide) (fun z => ?_) (fun z => ?_)
      · replace h := ite_f z h
        refine j_sub (lv' := [(0, .ref 30), (1, .int a1), (2, .int a2), (3, .int (c 35 (a1).toNatClampNeg))]) ⟨rfl, rfl, rfl, rfl, trivial⟩ ?_
        exact tj_m_sayAt_P98 hX hdp hE _ _ _ _ h
      · replace h := ite_t z h
        refine j_iload_n (pc := 50) hX dX10_sayAt_50 rfl rfl ?_
        refine j_if_ne (pc := 51) (tgt := 98) hX dX10_sayAt_51 (by decide) (fun z => ?_) (fun z => ?_)
        · replace h := ite_f z h
          refine j_sub (lv' := [(0, .ref 30), (1, .int a1), (2, .int a2), (3, .int (c 35 (a1).toNatClampNeg))]) ⟨rfl, rfl, rfl, rfl, trivial⟩ ?_
          exact tj_m_sayAt_P98 hX hdp hE _ _ _ _ h
        · replace h := ite_t z h
          refine j_aload_n (pc := 54) hX dX10_sayAt_54 rfl rfl ?_
          refine j_bipush (pc := 55) (v := (92 : Int32)) hX dX10_sayAt_55 (by decide) ?_
          obtain ⟨_u, c13, h1, h⟩ := bd_some h
          refine k_callVV (pc := 57) (st := []) hX ln_10_229 dX10_sayAt_57 (t_m_say (d := 0) (Nat.le_refl _) h1) rfl rfl rfl (by omega) (Nat.le_of_ble_eq_true rfl) ?_
          refine j_aload_n (pc := 60) hX dX10_sayAt_60 rfl rfl ?_
          refine j_bipush (pc := 61) (v := (97 : Int32)) hX dX10_sayAt_61 (by decide) ?_
          refine j_aload_n (pc := 63) hX dX10_sayAt_63 rfl rfl ?_
          refine k_getR (pc := 64) (q := 37) hX fl_10_36 dX10_sayAt_64 rfl rfl ?_
          refine j_iload_n (pc := 67) hX dX10_sayAt_67 rfl rfl ?_
          obtain ⟨hg, h⟩ := gd_some h
          refine k_iald (pc := 68) (x := (c13 37 (a1).toNatClampNeg)) hX dX10_sayAt_68 rfl hg rfl ?_
          refine j_iadd (pc := 69) hX dX10_sayAt_69 ?_
          obtain ⟨_u, c14, h1, h⟩ := bd_some h
          refine k_callVV (pc := 70) (st := []) hX ln_10_229 dX10_sayAt_70 (t_m_say (d := 0) (Nat.le_refl _) h1) rfl rfl rfl (by omega) (Nat.le_of_ble_eq_true rfl) ?_
          refine j_aload_n (pc := 73) hX dX10_sayAt_73 rfl rfl ?_
          refine j_bipush (pc := 74) (v := (58 : Int32)) hX dX10_sayAt_74 (by decide) ?_
          obtain ⟨_u, c15, h1, h⟩ := bd_some h
          refine k_callVV (pc := 76) (st := []) hX ln_10_229 dX10_sayAt_76 (t_m_say (d := 0) (Nat.le_refl _) h1) rfl rfl rfl (by omega) (Nat.le_of_ble_eq_true rfl) ?_
          refine j_aload_n (pc := 79) hX dX10_sayAt_79 rfl rfl ?_
          refine j_aload_n (pc := 80) hX dX10_sayAt_80 rfl rfl ?_
          refine k_getR (pc := 81) (q := 38) hX fl_10_39 dX10_sayAt_81 rfl rfl ?_
          refine j_iload_n (pc := 84) hX dX10_sayAt_84 rfl rfl ?_
          obtain ⟨hg, h⟩ := gd_some h
          refine k_iald (pc := 85) (x := (c15 38 (a1).toNatClampNeg)) hX dX10_sayAt_85 rfl hg rfl ?_
          obtain ⟨_u, c16, h1, h⟩ := bd_some h
          refine k_callVV (pc := 86) (st := []) hX ln_10_239 dX10_sayAt_86 (t_m_sayType (d := 1) (Nat.le_refl _) h1) rfl rfl rfl (by omega) (Nat.le_of_ble_eq_true rfl) ?_
          refine j_aload_n (pc := 89) hX dX10_sayAt_89 rfl rfl ?_
          refine j_bipush (pc := 90) (v := (46 : Int32)) hX dX10_sayAt_90 (by decide) ?_
          obtain ⟨_u, c17, h1, h⟩ := bd_some h
          refine k_callVV (pc := 92) (st := []) hX ln_10_229 dX10_sayAt_92 (t_m_say (d := 0) (Nat.le_refl _) h1) rfl rfl rfl (by omega) (Nat.le_of_ble_eq_true rfl) ?_
          refine j_goto (pc := 95) (tgt := 243) hX dX10_sayAt_95 (by decide) ?_
          obtain ⟨_, h⟩ := Prod.mk.inj (Option.some.inj h)
          subst h
          exact j_vret (pc := 243) hX hE dX10_sayAt_243 (Nat.le_refl 0) (Nat.le_refl 0) ⟨rfl, rfl, rfl⟩
    · replace h := ite_t z h
      refine j_aload_n (pc := 29) hX dX10_sayAt_29 rfl rfl ?_
      refine j_bipush (pc := 30) (v := (97 : Int32)) hX dX10_sayAt_30 (by decide) ?_
      refine j_aload_n (pc := 32) hX dX10_sayAt_32 rfl rfl ?_
      refine k_getR (pc := 33) (q := 37) hX fl_10_36 dX10_sayAt_33 rfl rfl ?_
      refine j_iload_n (pc := 36) hX dX10_sayAt_36 rfl rfl ?_
      obtain ⟨hg, h⟩ := gd_some h
      refine k_iald (pc := 37) (x := (c 37 (a1).toNatClampNeg)) hX dX10_sayAt_37 rfl hg rfl ?_
      refine j_iadd (pc := 38) hX dX10_sayAt_38 ?_
      obtain ⟨_u, c18, h1, h⟩ := bd_some h
      refine k_callVV (pc := 39) (st := []) hX ln_10_229 dX10_sayAt_39 (t_m_say (d := 0) (Nat.le_refl _) h1) rfl rfl rfl (by omega) (Nat.le_of_ble_eq_true rfl) ?_
      refine j_goto (pc := 42) (tgt := 243) hX dX10_sayAt_42 (by decide) ?_
      obtain ⟨_, h⟩ := Prod.mk.inj (Option.some.inj h)
      subst h
      exact j_vret (pc := 243) hX hE dX10_sayAt_243 (Nat.le_refl 0) (Nat.le_refl 0) ⟨rfl, rfl, rfl⟩
  · replace h := ite_t z h
    refine j_aload_n (pc := 11) hX dX10_sayAt_11 rfl rfl ?_
    refine j_aload_n (pc := 12) hX dX10_sayAt_12 rfl rfl ?_
    refine k_getR (pc := 13) (q := 36) hX fl_10_33 dX10_sayAt_13 rfl rfl ?_
    refine j_iload_n (pc := 16) hX dX10_sayAt_16 rfl rfl ?_
    obtain ⟨hg, h⟩ := gd_some h
    refine k_iald (pc := 17) (x := (c 36 (a1).toNatClampNeg)) hX dX10_sayAt_17 rfl hg rfl ?_
    obtain ⟨_u, c19, h1, h⟩ := bd_some h
    refine k_callVV (pc := 18) (st := []) hX ln_10_236 dX10_sayAt_18 (t_m_sayNumber (d := 1) (Nat.le_refl _) h1) rfl rfl rfl (by omega) (Nat.le_of_ble_eq_true rfl) ?_
    refine j_goto (pc := 21) (tgt := 243) hX dX10_sayAt_21 (by decide) ?_
    obtain ⟨_, h⟩ := Prod.mk.inj (Option.some.inj h)
    subst h
    exact j_vret (pc := 243) hX hE dX10_sayAt_243 (Nat.le_refl 0) (Nat.le_refl 0) ⟨rfl, rfl, rfl⟩

set_option maxHeartbeats 4000000 in
set_option maxRecDepth 100000 in
theorem tl_m_print_L129 {X : jX} {d : Nat} {r : jS} {vE : Int32} {cE : jS} (hX : jOk X RX10 cX10_print 5 d) (hdp : 3 ≤ d) (hE : jEnd X (some .int) 0 0 (fun r0 n0 h0 => r0 = (some (.int vE)) ∧ n0 = jN ∧ h0 = jE (jmix r cE))) : ∀ (v2 : Int32) (c : jS), m_print_L129 v2 c = some (vE, cE) → J X 0 0 jN (jE (jmix r c)) [(0, .ref 30), (2, .int v2)] [] 129 := by
  intro v2 c h
  unfold m_print_L129 at h
  replace h := lp_some h
  obtain ⟨k_129, h⟩ := h
  induction k_129 generalizing v2 c with
  | zero => cases h
  | succ k_129 ih_129 =>
    replace h : lq (fun s : (Int32 × jS) => m_print_S129 s.1 s.2) k_129 (vE, cE) (m_print_S129 v2 c) := lpk_succ (s := (v2, c)) h
    conv at h => arg 4; unfold m_print_S129
    refine j_iload_n (pc := 129) hX dX10_print_129 rfl rfl ?_
    refine j_aload_n (pc := 130) hX dX10_print_130 rfl rfl ?_
    refine k_getI (pc := 131) (x := (c 30 35)) hX fl_10_222 dX10_print_131 rfl rfl rfl ?_
    refine j_icmp_ge (pc := 134) (tgt := 155) hX dX10_print_134 (by decide) (fun z => ?_) (fun z => ?_)
    · replace h := lq_t z h
      refine j_aload_n (pc := 155) hX dX10_print_155 rfl rfl ?_
      refine j_aload_n (pc := 156) hX dX10_print_156 rfl rfl ?_
      refine k_getI (pc := 157) (x := (c 30 35)) hX fl_10_222 dX10_print_157 rfl rfl rfl ?_
      obtain ⟨c6, hc, h⟩ := lq_lt h
      refine k_putI (pc := 160) (c' := jmix r c6) hX pfl_10_245 dX10_print_160 rfl rfl (fun _ => ⟨rfl, rfl⟩) (jmix_me rfl hc) ?_
      refine j_aload_n (pc := 163) hX dX10_print_163 rfl rfl ?_
      refine k_getI (pc := 164) (x := (c6 30 33)) hX fl_10_245 dX10_print_164 rfl rfl rfl ?_
      replace h := lq_r h
      obtain ⟨h, h0⟩ := Prod.mk.inj (Option.some.inj h)
      subst h h0
      exact j_iret (pc := 167) hX hE rfl rfl dX10_print_167 (Nat.le_refl 0) (Nat.le_refl 0) ⟨rfl, rfl, rfl⟩
    · replace h := lq_f z h
      refine j_aload_n (pc := 137) hX dX10_print_137 rfl rfl ?_
      refine k_getR (pc := 138) (q := 55) hX fl_10_93 dX10_print_138 rfl rfl ?_
      refine j_iload_n (pc := 141) hX dX10_print_141 rfl rfl ?_
      refine j_aload_n (pc := 142) hX dX10_print_142 rfl rfl ?_
      refine k_getR (pc := 143) (q := 56) hX fl_10_96 dX10_print_143 rfl rfl ?_
      refine j_iload_n (pc := 146) hX dX10_print_146 rfl rfl ?_
      obtain ⟨hg, h⟩ := lq_gd h
      refine k_iald (pc := 147) (x := (c 56 (v2).toNatClampNeg)) hX dX10_print_147 rfl hg rfl ?_
      obtain ⟨hg, h⟩ := lq_gd h
      obtain ⟨c7, hc, h⟩ := lq_lt h
      refine k_iast (pc := 148) (c' := jmix r c7) hX dX10_print_148 rfl hg (jmix_me rfl hc) ?_
      refine j_iinc (pc := 149) hX dX10_print_149 rfl (v := (v2 + (1 : Int32))) rfl (by decide) (by decide) ?_
      refine j_goto (pc := 152) (tgt := 129) hX dX10_print_152 (by decide) ?_
      refine j_sub (lv' := [(0, .ref 30), (2, .int (v2 + (1 : Int32)))]) ⟨rfl, rfl, trivial⟩ ?_
      exact ih_129 _ _ (lq_l h)
set_option maxHeartbeats 4000000 in
set_option maxRecDepth 100000 in
theorem tl_m_print_L30 {X : jX} {d : Nat} {r : jS} {vE : Int32} {cE : jS} (hX : jOk X RX10 cX10_print 5 d) (hdp : 3 ≤ d) (hE : jEnd X (some .int) 0 0 (fun r0 n0 h0 => r0 = (some (.int vE)) ∧ n0 = jN ∧ h0 = jE (jmix r cE))) : ∀ (c : jS), m_print_L30 c = some (vE, cE) → J X 0 0 jN (jE (jmix r c)) [(0, .ref 30)] [] 30 := by
  intro c h
  unfold m_print_L30 at h
  replace h := lp_some h
  obtain ⟨k_30, h⟩ := h
  induction k_30 generalizing c with
  | zero => cases h
  | succ k_30 ih_30 =>
    replace h : lq (fun s : (jS) => m_print_S30 s) k_30 (vE, cE) (m_print_S30 c) := lpk_succ (s := c) h
    conv at h => arg 4; unfold m_print_S30
    refine j_aload_n (pc := 30) hX dX10_print_30 rfl rfl ?_
    refine k_getI (pc := 31) (x := (c 30 14)) hX fl_10_145 dX10_print_31 rfl rfl rfl ?_
    refine j_if_le (pc := 34) (tgt := 117) hX dX10_print_34 (by decide) (fun z => ?_) (fun z => ?_)
    · replace h := lq_t z h
      refine j_aload_n (pc := 117) hX dX10_print_117 rfl rfl ?_
      refine k_getI (pc := 118) (x := (c 30 36)) hX fl_10_225 dX10_print_118 rfl rfl rfl ?_
      refine j_if_eq (pc := 121) (tgt := 127) hX dX10_print_121 (by decide) (fun z => ?_) (fun z => ?_)
      · replace h := lq_t z h
        refine j_iconst (pc := 127) (v := (0 : Int32)) hX dX10_print_127 (by decide) ?_
        refine j_istore_n (pc := 128) hX dX10_print_128 rfl (by decide) (by decide) ?_
        refine j_sub (lv' := [(0, .ref 30), (2, .int (0 : Int32))]) ⟨rfl, rfl, trivial⟩ ?_
        exact tl_m_print_L129 hX hdp hE _ _ (lq_om h)
      · replace h := lq_f z h
        refine j_bipush (pc := 124) (v := (-3 : Int32)) hX dX10_print_124 (by decide) ?_
        replace h := lq_r h
        obtain ⟨h, h0⟩ := Prod.mk.inj (Option.some.inj h)
        subst h h0
        exact j_iret (pc := 126) hX hE rfl rfl dX10_print_126 (Nat.le_refl 0) (Nat.le_refl 0) ⟨rfl, rfl, rfl⟩
    · replace h := lq_f z h
      refine j_aload_n (pc := 37) hX dX10_print_37 rfl rfl ?_
      refine k_getI (pc := 38) (x := (c 30 14)) hX fl_10_145 dX10_print_38 rfl rfl rfl ?_
      refine j_iconst (pc := 41) (v := (1 : Int32)) hX dX10_print_41 (by decide) ?_
      refine j_isub (pc := 42) hX dX10_print_42 ?_
      refine j_istore_n (pc := 43) hX dX10_print_43 rfl (by decide) (by decide) ?_
      refine j_aload_n (pc := 44) hX dX10_print_44 rfl rfl ?_
      refine k_getR (pc := 45) (q := 43) hX fl_10_54 dX10_print_45 rfl rfl ?_
      refine j_iload_n (pc := 48) hX dX10_print_48 rfl rfl ?_
      obtain ⟨hg, h⟩ := lq_gd h
      refine k_iald (pc := 49) (x := (c 43 (((c 30 14) - (1 : Int32))).toNatClampNeg)) hX dX10_print_49 rfl hg rfl ?_
      refine j_istore_n (pc := 50) hX dX10_print_50 rfl (by decide) (by decide) ?_
      refine j_aload_n (pc := 51) hX dX10_print_51 rfl rfl ?_
      refine k_getR (pc := 52) (q := 44) hX fl_10_57 dX10_print_52 rfl rfl ?_
      refine j_iload_n (pc := 55) hX dX10_print_55 rfl rfl ?_
      obtain ⟨hg, h⟩ := lq_gd h
      refine k_iald (pc := 56) (x := (c 44 (((c 30 14) - (1 : Int32))).toNatClampNeg)) hX dX10_print_56 rfl hg rfl ?_
      refine j_istore (pc := 57) hX dX10_print_57 (by decide) (by decide) ?_
      refine j_aload_n (pc := 59) hX dX10_print_59 rfl rfl ?_
      refine k_getR (pc := 60) (q := 44) hX fl_10_57 dX10_print_60 rfl rfl ?_
      refine j_iload_n (pc := 63) hX dX10_print_63 rfl rfl ?_
      refine j_dup2 (pc := 64) hX dX10_print_64 rfl rfl ?_
      obtain ⟨hg, h⟩ := lq_gd h
      refine k_iald (pc := 65) (x := (c 44 (((c 30 14) - (1 : Int32))).toNatClampNeg)) hX dX10_print_65 rfl hg rfl ?_
      refine j_iconst (pc := 66) (v := (1 : Int32)) hX dX10_print_66 (by decide) ?_
      refine j_iadd (pc := 67) hX dX10_print_67 ?_
      obtain ⟨hg, h⟩ := lq_gd h
      obtain ⟨c8, hc, h⟩ := lq_lt h
      refine k_iast (pc := 68) (c' := jmix r c8) hX dX10_print_68 rfl hg (jmix_me rfl hc) ?_
      refine j_aload_n (pc := 69) hX dX10_print_69 rfl rfl ?_
      refine j_iload_n (pc := 70) hX dX10_print_70 rfl rfl ?_
      refine j_iload (pc := 71) hX dX10_print_71 rfl ?_
      obtain ⟨_u, c9, h1, h⟩ := lq_bd h
      refine k_callVV (pc := 73) (st := []) hX ln_10_242 dX10_print_73 (t_m_sayAt (d := 2) (Nat.le_refl _) h1) rfl rfl rfl (by omega) (Nat.le_of_ble_eq_true rfl) ?_
      refine j_iload (pc := 76) hX dX10_print_76 rfl ?_
      refine j_aload_n (pc := 78) hX dX10_print_78 rfl rfl ?_
      refine k_getR (pc := 79) (q := 35) hX fl_10_30 dX10_print_79 rfl rfl ?_
      refine j_iload_n (pc := 82) hX dX10_print_82 rfl rfl ?_
      obtain ⟨hg, h⟩ := lq_gd h
      refine k_iald (pc := 83) (x := (c9 35 ((c 43 (((c 30 14) - (1 : Int32))).toNatClampNeg)).toNatClampNeg)) hX dX10_print_83 rfl hg rfl ?_
      obtain ⟨r10, h1, h⟩ := lq_ob h
      refine k_callSI (pc := 84) (st := [.int (c 44 (((c 30 14) - (1 : Int32))).toNatClampNeg)]) hX ln_10_122 dX10_print_84 (t_m_partsOf (d := 0) (Nat.le_refl _) h1) rfl rfl (by omega) (Nat.le_of_ble_eq_true rfl) ?_
      refine j_icmp_ge (pc := 87) (tgt := 104) hX dX10_print_87 (by decide) (fun z => ?_) (fun z => ?_)
      · replace h := lq_t z h
        refine j_aload_n (pc := 104) hX dX10_print_104 rfl rfl ?_
        refine j_dup (pc := 105) hX dX10_print_105 rfl ?_
        refine k_getI (pc := 106) (x := (c9 30 14)) hX fl_10_145 dX10_print_106 rfl rfl rfl ?_
        refine j_iconst (pc := 109) (v := (1 : Int32)) hX dX10_print_109 (by decide) ?_
        refine j_isub (pc := 110) hX dX10_print_110 ?_
        obtain ⟨c11, hc, h⟩ := lq_lt h
        refine k_putI (pc := 111) (c' := jmix r c11) hX pfl_10_145 dX10_print_111 rfl rfl (fun _ => ⟨rfl, rfl⟩) (jmix_me rfl hc) ?_
        refine j_goto (pc := 114) (tgt := 30) hX dX10_print_114 (by decide) ?_
        refine j_sub (lv' := [(0, .ref 30)]) ⟨rfl, trivial⟩ ?_
        exact ih_30 _ (lq_l h)
      · replace h := lq_f z h
        refine j_aload_n (pc := 90) hX dX10_print_90 rfl rfl ?_
        refine j_aload_n (pc := 91) hX dX10_print_91 rfl rfl ?_
        refine j_iload_n (pc := 92) hX dX10_print_92 rfl rfl ?_
        refine j_iload (pc := 93) hX dX10_print_93 rfl ?_
        obtain ⟨r12, h1, h⟩ := lq_ob h
        refine k_callVI (pc := 95) (st := [.ref 30]) hX ln_10_126 dX10_print_95 (t_m_part (d := 0) (Nat.le_refl _) h1) rfl rfl rfl (by omega) (Nat.le_of_ble_eq_true rfl) ?_
        obtain ⟨_u, c13, h1, h⟩ := lq_bd h
        refine k_callVV (pc := 98) (st := []) hX ln_10_154 dX10_print_98 (t_m_push (d := 0) (Nat.le_refl _) h1) rfl rfl rfl (by omega) (Nat.le_of_ble_eq_true rfl) ?_
        refine j_goto (pc := 101) (tgt := 114) hX dX10_print_101 (by decide) ?_
        refine j_goto (pc := 114) (tgt := 30) hX dX10_print_114 (by decide) ?_
        refine j_sub (lv' := [(0, .ref 30)]) ⟨rfl, trivial⟩ ?_
        exact ih_30 _ (lq_l h)
set_option maxHeartbeats 4000000 in
set_option maxRecDepth 100000 in
theorem t_m_print {l : Launch} {D : va_G} {G : Nat → ClassId} {d : Nat} (hdp : 3 ≤ d) {c r : jS} {a1 : Int32} {vE : Int32} {cE : jS} (h : m_print c a1 = some (vE, cE)) : jC l D G d M_m_print [.ref 30, .int a1] (jmix r c) (some (.int vE)) (jmix r cE) := by
  refine jM_of rfl (Nat.le_of_ble_eq_true rfl) ?_
  intro X hl hD hG _ _ hX hE _
  subst hl hD hG
  unfold m_print at h
  show J X 0 0 jN (jE (jmix r c)) [(0, .ref 30), (1, .int a1)] [] 0
  refine j_aload_n (pc := 0) hX dX10_print_0 rfl rfl ?_
  refine j_iload_n (pc := 1) hX dX10_print_1 rfl rfl ?_
  obtain ⟨r1, h1, h⟩ := ob_some h
  refine k_callVI (pc := 2) (st := []) hX ln_10_136 dX10_print_2 (t_m_isTerm (d := 1) (Nat.le_refl _) h1) rfl rfl rfl (by omega) (Nat.le_of_ble_eq_true rfl) ?_
  refine j_if_ne (pc := 5) (tgt := 10) hX dX10_print_5 (by decide) (fun z => ?_) (fun z => ?_)
  · replace h := ite_f z h
    refine j_aload_n (pc := 10) hX dX10_print_10 rfl rfl ?_
    refine j_iconst (pc := 11) (v := (0 : Int32)) hX dX10_print_11 (by decide) ?_
    obtain ⟨c2, hc, h⟩ := lt_some h
    refine k_putI (pc := 12) (c' := jmix r c2) hX pfl_10_222 dX10_print_12 rfl rfl (fun _ => ⟨rfl, rfl⟩) (jmix_me rfl hc) ?_
    refine j_aload_n (pc := 15) hX dX10_print_15 rfl rfl ?_
    refine j_iconst (pc := 16) (v := (0 : Int32)) hX dX10_print_16 (by decide) ?_
    obtain ⟨c3, hc, h⟩ := lt_some h
    refine k_putI (pc := 17) (c' := jmix r c3) hX pfl_10_225 dX10_print_17 rfl rfl (fun _ => ⟨rfl, rfl⟩) (jmix_me rfl hc) ?_
    refine j_aload_n (pc := 20) hX dX10_print_20 rfl rfl ?_
    refine j_iconst (pc := 21) (v := (0 : Int32)) hX dX10_print_21 (by decide) ?_
    obtain ⟨c4, hc, h⟩ := lt_some h
    refine k_putI (pc := 22) (c' := jmix r c4) hX pfl_10_145 dX10_print_22 rfl rfl (fun _ => ⟨rfl, rfl⟩) (jmix_me rfl hc) ?_
    refine j_aload_n (pc := 25) hX dX10_print_25 rfl rfl ?_
    refine j_iload_n (pc := 26) hX dX10_print_26 rfl rfl ?_
    obtain ⟨_u, c5, h1, h⟩ := bd_some h
    refine k_callVV (pc := 27) (st := []) hX ln_10_154 dX10_print_27 (t_m_push (d := 0) (Nat.le_refl _) h1) rfl rfl rfl (by omega) (Nat.le_of_ble_eq_true rfl) ?_
    refine j_sub (lv' := [(0, .ref 30)]) ⟨rfl, trivial⟩ ?_
    exact tl_m_print_L30 hX hdp hE _ h
  · replace h := ite_t z h
    refine j_iconst (pc := 8) (v := (-1 : Int32)) hX dX10_print_8 (by decide) ?_
    obtain ⟨h, h0⟩ := Prod.mk.inj (Option.some.inj h)
    subst h h0
    exact j_iret (pc := 9) hX hE rfl rfl dX10_print_9 (Nat.le_refl 0) (Nat.le_refl 0) ⟨rfl, rfl, rfl⟩

set_option maxHeartbeats 4000000 in
set_option maxRecDepth 100000 in
theorem t_m_at {l : Launch} {D : va_G} {G : Nat → ClassId} {d : Nat} (hdp : 1 ≤ d) {c r : jS} {a1 : Int32} {vE : Int32} (h : m_at c a1 = some vE) : jC l D G d M_m_at [.ref 30, .int a1] (jmix r c) (some (.int vE)) (jmix r c) := by
  refine jM_of rfl (Nat.le_of_ble_eq_true rfl) ?_
  intro X hl hD hG _ _ hX hE _
  subst hl hD hG
  unfold m_at at h
  show J X 0 0 jN (jE (jmix r c)) [(0, .ref 30), (1, .int a1)] [] 0
  refine j_iload_n (pc := 0) hX dX10_at_0 rfl rfl ?_
  refine j_iconst (pc := 1) (v := (0 : Int32)) hX dX10_at_1 (by decide) ?_
  refine j_aload_n (pc := 2) hX dX10_at_2 rfl rfl ?_
  refine k_getI (pc := 3) (x := (c 30 33)) hX fl_10_245 dX10_at_3 rfl rfl rfl ?_
  refine j_iconst (pc := 6) (v := (1 : Int32)) hX dX10_at_6 (by decide) ?_
  refine j_isub (pc := 7) hX dX10_at_7 ?_
  obtain ⟨r1, h1, h⟩ := ob_some h
  refine k_callSI (pc := 8) (st := []) hX ln_10_3 dX10_at_8 (t_m_in (d := 0) (Nat.le_refl _) h1) rfl rfl (by omega) (Nat.le_of_ble_eq_true rfl) ?_
  refine j_if_eq (pc := 11) (tgt := 23) hX dX10_at_11 (by decide) (fun z => ?_) (fun z => ?_)
  · replace h := ite_t z h
    refine j_iconst (pc := 23) (v := (-1 : Int32)) hX dX10_at_23 (by decide) ?_
    replace h := Option.some.inj h
    subst h
    exact j_iret (pc := 24) hX hE rfl rfl dX10_at_24 (Nat.le_refl 0) (Nat.le_refl 0) ⟨rfl, rfl, rfl⟩
  · replace h := ite_f z h
    refine j_aload_n (pc := 14) hX dX10_at_14 rfl rfl ?_
    refine k_getR (pc := 15) (q := 55) hX fl_10_93 dX10_at_15 rfl rfl ?_
    refine j_iload_n (pc := 18) hX dX10_at_18 rfl rfl ?_
    obtain ⟨hg, h⟩ := gd_some h
    refine k_iald (pc := 19) (x := (c 55 (a1).toNatClampNeg)) hX dX10_at_19 rfl hg rfl ?_
    refine j_goto (pc := 20) (tgt := 24) hX dX10_at_20 (by decide) ?_
    replace h := Option.some.inj h
    subst h
    exact j_iret (pc := 24) hX hE rfl rfl dX10_at_24 (Nat.le_refl 0) (Nat.le_refl 0) ⟨rfl, rfl, rfl⟩

set_option maxHeartbeats 4000000 in
set_option maxRecDepth 100000 in
theorem tl_m_feed_L32 {X : jX} {d : Nat} {r : jS} {vE : Int32} {cE : jS} (hX : jOk X RX10 cX10_feed 5 d) (hdp : 1 ≤ d) (hE : jEnd X (some .int) 0 0 (fun r0 n0 h0 => r0 = (some (.int vE)) ∧ n0 = jN ∧ h0 = jE (jmix r cE))) : ∀ (v1 : Int64) (v4 : Int32) (c : jS), m_feed_L32 v1 v4 c = some (vE, cE) → J X 0 0 jN (jE (jmix r c)) [(0, .ref 30), (1, .long v1), (4, .int v4)] [] 32 := by
  intro v1 v4 c h
  unfold m_feed_L32 at h
  replace h := lp_some h
  obtain ⟨k_32, h⟩ := h
  induction k_32 generalizing v1 v4 c with
  | zero => cases h
  | succ k_32 ih_32 =>
    replace h : lq (fun s : (Int64 × Int32 × jS) => m_feed_S32 s.1 s.2.1 s.2.2) k_32 (vE, cE) (m_feed_S32 v1 v4 c) := lpk_succ (s := (v1, v4, c)) h
    conv at h => arg 4; unfold m_feed_S32
    refine j_iload (pc := 32) hX dX10_feed_32 rfl ?_
    refine j_if_lt (pc := 34) (tgt := 74) hX dX10_feed_34 (by decide) (fun z => ?_) (fun z => ?_)
    · replace h := lq_t z h
      refine j_aload_n (pc := 74) hX dX10_feed_74 rfl rfl ?_
      refine k_getI (pc := 75) (x := (c 30 40)) hX fl_10_248 dX10_feed_75 rfl rfl rfl ?_
      replace h := lq_r h
      obtain ⟨h, h0⟩ := Prod.mk.inj (Option.some.inj h)
      subst h h0
      exact j_iret (pc := 78) hX hE rfl rfl dX10_feed_78 (Nat.le_refl 0) (Nat.le_refl 0) ⟨rfl, rfl, rfl⟩
    · replace h := lq_f z h
      refine j_aload_n (pc := 37) hX dX10_feed_37 rfl rfl ?_
      refine k_getR (pc := 38) (q := 59) hX fl_10_105 dX10_feed_38 rfl rfl ?_
      refine j_aload_n (pc := 41) hX dX10_feed_41 rfl rfl ?_
      refine k_getI (pc := 42) (x := (c 30 40)) hX fl_10_248 dX10_feed_42 rfl rfl rfl ?_
      refine j_lload_n (pc := 45) hX dX10_feed_45 rfl rfl ?_
      refine j_bipush (pc := 46) (v := (8 : Int32)) hX dX10_feed_46 (by decide) ?_
      refine j_iload (pc := 48) hX dX10_feed_48 rfl ?_
      refine j_imul (pc := 50) hX dX10_feed_50 ?_
      refine j_lshr (pc := 51) hX dX10_feed_51 ?_
      refine j_l2i (pc := 52) hX dX10_feed_52 ?_
      refine j_sipush (pc := 53) (v := (255 : Int32)) hX dX10_feed_53 (by decide) ?_
      refine j_iand (pc := 56) hX dX10_feed_56 ?_
      obtain ⟨hg, h⟩ := lq_gd h
      obtain ⟨c2, hc, h⟩ := lq_lt h
      refine k_iast (pc := 57) (c' := jmix r c2) hX dX10_feed_57 rfl hg (jmix_me rfl hc) ?_
      refine j_aload_n (pc := 58) hX dX10_feed_58 rfl rfl ?_
      refine j_dup (pc := 59) hX dX10_feed_59 rfl ?_
      refine k_getI (pc := 60) (x := (c2 30 40)) hX fl_10_248 dX10_feed_60 rfl rfl rfl ?_
      refine j_iconst (pc := 63) (v := (1 : Int32)) hX dX10_feed_63 (by decide) ?_
      refine j_iadd (pc := 64) hX dX10_feed_64 ?_
      obtain ⟨c3, hc, h⟩ := lq_lt h
      refine k_putI (pc := 65) (c' := jmix r c3) hX pfl_10_248 dX10_feed_65 rfl rfl (fun _ => ⟨rfl, rfl⟩) (jmix_me rfl hc) ?_
      refine j_iinc (pc := 68) hX dX10_feed_68 rfl (v := (v4 - (1 : Int32))) (iinc_m1 _) (by decide) (by decide) ?_
      refine j_goto (pc := 71) (tgt := 32) hX dX10_feed_71 (by decide) ?_
      refine j_sub (lv' := [(0, .ref 30), (1, .long v1), (4, .int (v4 - (1 : Int32)))]) ⟨rfl, rfl, rfl, trivial⟩ ?_
      exact ih_32 _ _ _ (lq_l h)
set_option maxHeartbeats 4000000 in
set_option maxRecDepth 100000 in
theorem t_m_feed {l : Launch} {D : va_G} {G : Nat → ClassId} {d : Nat} (hdp : 1 ≤ d) {c r : jS} {a1 : Int64} {a3 : Int32} {vE : Int32} {cE : jS} (h : m_feed c a1 a3 = some (vE, cE)) : jC l D G d M_m_feed [.ref 30, .long a1, .int a3] (jmix r c) (some (.int vE)) (jmix r cE) := by
  refine jM_of rfl (Nat.le_of_ble_eq_true rfl) ?_
  intro X hl hD hG _ _ hX hE _
  subst hl hD hG
  unfold m_feed at h
  show J X 0 0 jN (jE (jmix r c)) [(0, .ref 30), (1, .long a1), (3, .int a3)] [] 0
  refine j_iload_n (pc := 0) hX dX10_feed_0 rfl rfl ?_
  refine j_iconst (pc := 1) (v := (1 : Int32)) hX dX10_feed_1 (by decide) ?_
  refine j_bipush (pc := 2) (v := (8 : Int32)) hX dX10_feed_2 (by decide) ?_
  obtain ⟨r1, h1, h⟩ := ob_some h
  refine k_callSI (pc := 4) (st := []) hX ln_10_3 dX10_feed_4 (t_m_in (d := 0) (Nat.le_refl _) h1) rfl rfl (by omega) (Nat.le_of_ble_eq_true rfl) ?_
  refine j_if_ne (pc := 7) (tgt := 12) hX dX10_feed_7 (by decide) (fun z => ?_) (fun z => ?_)
  · replace h := ite_f z h
    refine j_aload_n (pc := 12) hX dX10_feed_12 rfl rfl ?_
    refine k_getI (pc := 13) (x := (c 30 40)) hX fl_10_248 dX10_feed_13 rfl rfl rfl ?_
    refine j_iload_n (pc := 16) hX dX10_feed_16 rfl rfl ?_
    refine j_iadd (pc := 17) hX dX10_feed_17 ?_
    refine j_sipush (pc := 18) (v := (600 : Int32)) hX dX10_feed_18 (by decide) ?_
    refine j_icmp_le (pc := 21) (tgt := 27) hX dX10_feed_21 (by decide) (fun z => ?_) (fun z => ?_)
    · replace h := ite_t z h
      refine j_iload_n (pc := 27) hX dX10_feed_27 rfl rfl ?_
      refine j_iconst (pc := 28) (v := (1 : Int32)) hX dX10_feed_28 (by decide) ?_
      refine j_isub (pc := 29) hX dX10_feed_29 ?_
      refine j_istore (pc := 30) hX dX10_feed_30 (by decide) (by decide) ?_
      refine j_sub (lv' := [(0, .ref 30), (1, .long a1), (4, .int (a3 - (1 : Int32)))]) ⟨rfl, rfl, rfl, trivial⟩ ?_
      exact tl_m_feed_L32 hX hdp hE _ _ _ h
    · replace h := ite_f z h
      refine j_bipush (pc := 24) (v := (-3 : Int32)) hX dX10_feed_24 (by decide) ?_
      obtain ⟨h, h0⟩ := Prod.mk.inj (Option.some.inj h)
      subst h h0
      exact j_iret (pc := 26) hX hE rfl rfl dX10_feed_26 (Nat.le_refl 0) (Nat.le_refl 0) ⟨rfl, rfl, rfl⟩
  · replace h := ite_t z h
    refine j_iconst (pc := 10) (v := (-1 : Int32)) hX dX10_feed_10 (by decide) ?_
    obtain ⟨h, h0⟩ := Prod.mk.inj (Option.some.inj h)
    subst h h0
    exact j_iret (pc := 11) hX hE rfl rfl dX10_feed_11 (Nat.le_refl 0) (Nat.le_refl 0) ⟨rfl, rfl, rfl⟩

set_option maxHeartbeats 4000000 in
set_option maxRecDepth 100000 in
theorem tl_m_copy_L15 {X : jX} {d : Nat} {r : jS} {vE : Int32} {cE : jS} (hX : jOk X RX10 cX10_copy 2 d) (hdp : 0 ≤ d) (hE : jEnd X (some .int) 0 0 (fun r0 n0 h0 => r0 = (some (.int vE)) ∧ n0 = jN ∧ h0 = jE (jmix r cE))) : ∀ (v1 : Int32) (c : jS), m_copy_L15 v1 c = some (vE, cE) → J X 0 0 jN (jE (jmix r c)) [(0, .ref 30), (1, .int v1)] [] 15 := by
  intro v1 c h
  unfold m_copy_L15 at h
  replace h := lp_some h
  obtain ⟨k_15, h⟩ := h
  induction k_15 generalizing v1 c with
  | zero => cases h
  | succ k_15 ih_15 =>
    replace h : lq (fun s : (Int32 × jS) => m_copy_S15 s.1 s.2) k_15 (vE, cE) (m_copy_S15 v1 c) := lpk_succ (s := (v1, c)) h
    conv at h => arg 4; unfold m_copy_S15
    refine j_iload_n (pc := 15) hX dX10_copy_15 rfl rfl ?_
    refine j_aload_n (pc := 16) hX dX10_copy_16 rfl rfl ?_
    refine k_getI (pc := 17) (x := (c 30 33)) hX fl_10_245 dX10_copy_17 rfl rfl rfl ?_
    refine j_icmp_ge (pc := 20) (tgt := 41) hX dX10_copy_20 (by decide) (fun z => ?_) (fun z => ?_)
    · replace h := lq_t z h
      refine j_aload_n (pc := 41) hX dX10_copy_41 rfl rfl ?_
      refine j_aload_n (pc := 42) hX dX10_copy_42 rfl rfl ?_
      refine k_getI (pc := 43) (x := (c 30 33)) hX fl_10_245 dX10_copy_43 rfl rfl rfl ?_
      obtain ⟨c1, hc, h⟩ := lq_lt h
      refine k_putI (pc := 46) (c' := jmix r c1) hX pfl_10_248 dX10_copy_46 rfl rfl (fun _ => ⟨rfl, rfl⟩) (jmix_me rfl hc) ?_
      refine j_aload_n (pc := 49) hX dX10_copy_49 rfl rfl ?_
      refine k_getI (pc := 50) (x := (c1 30 40)) hX fl_10_248 dX10_copy_50 rfl rfl rfl ?_
      replace h := lq_r h
      obtain ⟨h, h0⟩ := Prod.mk.inj (Option.some.inj h)
      subst h h0
      exact j_iret (pc := 53) hX hE rfl rfl dX10_copy_53 (Nat.le_refl 0) (Nat.le_refl 0) ⟨rfl, rfl, rfl⟩
    · replace h := lq_f z h
      refine j_aload_n (pc := 23) hX dX10_copy_23 rfl rfl ?_
      refine k_getR (pc := 24) (q := 59) hX fl_10_105 dX10_copy_24 rfl rfl ?_
      refine j_iload_n (pc := 27) hX dX10_copy_27 rfl rfl ?_
      refine j_aload_n (pc := 28) hX dX10_copy_28 rfl rfl ?_
      refine k_getR (pc := 29) (q := 55) hX fl_10_93 dX10_copy_29 rfl rfl ?_
      refine j_iload_n (pc := 32) hX dX10_copy_32 rfl rfl ?_
      obtain ⟨hg, h⟩ := lq_gd h
      refine k_iald (pc := 33) (x := (c 55 (v1).toNatClampNeg)) hX dX10_copy_33 rfl hg rfl ?_
      obtain ⟨hg, h⟩ := lq_gd h
      obtain ⟨c2, hc, h⟩ := lq_lt h
      refine k_iast (pc := 34) (c' := jmix r c2) hX dX10_copy_34 rfl hg (jmix_me rfl hc) ?_
      refine j_iinc (pc := 35) hX dX10_copy_35 rfl (v := (v1 + (1 : Int32))) rfl (by decide) (by decide) ?_
      refine j_goto (pc := 38) (tgt := 15) hX dX10_copy_38 (by decide) ?_
      refine j_sub (lv' := [(0, .ref 30), (1, .int (v1 + (1 : Int32)))]) ⟨rfl, rfl, trivial⟩ ?_
      exact ih_15 _ _ (lq_l h)
set_option maxHeartbeats 4000000 in
set_option maxRecDepth 100000 in
theorem t_m_copy {l : Launch} {D : va_G} {G : Nat → ClassId} {d : Nat} (hdp : 0 ≤ d) {c r : jS} {vE : Int32} {cE : jS} (h : m_copy c = some (vE, cE)) : jC l D G d M_m_copy [.ref 30] (jmix r c) (some (.int vE)) (jmix r cE) := by
  refine jM_of rfl (Nat.le_of_ble_eq_true rfl) ?_
  intro X hl hD hG _ _ hX hE _
  subst hl hD hG
  unfold m_copy at h
  show J X 0 0 jN (jE (jmix r c)) [(0, .ref 30)] [] 0
  refine j_aload_n (pc := 0) hX dX10_copy_0 rfl rfl ?_
  refine k_getI (pc := 1) (x := (c 30 33)) hX fl_10_245 dX10_copy_1 rfl rfl rfl ?_
  refine j_sipush (pc := 4) (v := (600 : Int32)) hX dX10_copy_4 (by decide) ?_
  refine j_icmp_le (pc := 7) (tgt := 13) hX dX10_copy_7 (by decide) (fun z => ?_) (fun z => ?_)
  · replace h := ite_t z h
    refine j_iconst (pc := 13) (v := (0 : Int32)) hX dX10_copy_13 (by decide) ?_
    refine j_istore_n (pc := 14) hX dX10_copy_14 rfl (by decide) (by decide) ?_
    refine j_sub (lv' := [(0, .ref 30), (1, .int (0 : Int32))]) ⟨rfl, rfl, trivial⟩ ?_
    exact tl_m_copy_L15 hX hdp hE _ _ h
  · replace h := ite_f z h
    refine j_bipush (pc := 10) (v := (-3 : Int32)) hX dX10_copy_10 (by decide) ?_
    obtain ⟨h, h0⟩ := Prod.mk.inj (Option.some.inj h)
    subst h h0
    exact j_iret (pc := 12) hX hE rfl rfl dX10_copy_12 (Nat.le_refl 0) (Nat.le_refl 0) ⟨rfl, rfl, rfl⟩

set_option maxHeartbeats 4000000 in
set_option maxRecDepth 100000 in
theorem t_m_byteHere {l : Launch} {D : va_G} {G : Nat → ClassId} {d : Nat} (hdp : 0 ≤ d) {c r : jS} {vE : Int32} (h : m_byteHere c = some vE) : jC l D G d M_m_byteHere [.ref 30] (jmix r c) (some (.int vE)) (jmix r c) := by
  refine jM_of rfl (Nat.le_of_ble_eq_true rfl) ?_
  intro X hl hD hG _ _ hX hE _
  subst hl hD hG
  unfold m_byteHere at h
  show J X 0 0 jN (jE (jmix r c)) [(0, .ref 30)] [] 0
  refine j_aload_n (pc := 0) hX dX10_byteHere_0 rfl rfl ?_
  refine k_getI (pc := 1) (x := (c 30 41)) hX fl_10_251 dX10_byteHere_1 rfl rfl rfl ?_
  refine j_aload_n (pc := 4) hX dX10_byteHere_4 rfl rfl ?_
  refine k_getI (pc := 5) (x := (c 30 40)) hX fl_10_248 dX10_byteHere_5 rfl rfl rfl ?_
  refine j_icmp_ge (pc := 8) (tgt := 23) hX dX10_byteHere_8 (by decide) (fun z => ?_) (fun z => ?_)
  · replace h := ite_t z h
    refine j_iconst (pc := 23) (v := (-1 : Int32)) hX dX10_byteHere_23 (by decide) ?_
    replace h := Option.some.inj h
    subst h
    exact j_iret (pc := 24) hX hE rfl rfl dX10_byteHere_24 (Nat.le_refl 0) (Nat.le_refl 0) ⟨rfl, rfl, rfl⟩
  · replace h := ite_f z h
    refine j_aload_n (pc := 11) hX dX10_byteHere_11 rfl rfl ?_
    refine k_getR (pc := 12) (q := 59) hX fl_10_105 dX10_byteHere_12 rfl rfl ?_
    refine j_aload_n (pc := 15) hX dX10_byteHere_15 rfl rfl ?_
    refine k_getI (pc := 16) (x := (c 30 41)) hX fl_10_251 dX10_byteHere_16 rfl rfl rfl ?_
    obtain ⟨hg, h⟩ := gd_some h
    refine k_iald (pc := 19) (x := (c 59 ((c 30 41)).toNatClampNeg)) hX dX10_byteHere_19 rfl hg rfl ?_
    refine j_goto (pc := 20) (tgt := 24) hX dX10_byteHere_20 (by decide) ?_
    replace h := Option.some.inj h
    subst h
    exact j_iret (pc := 24) hX hE rfl rfl dX10_byteHere_24 (Nat.le_refl 0) (Nat.le_refl 0) ⟨rfl, rfl, rfl⟩

set_option maxHeartbeats 4000000 in
set_option maxRecDepth 100000 in
theorem tj_m_must_P28 {X : jX} {d : Nat} {r : jS} {cE : jS} (hX : jOk X RX10 cX10_must 2 d) (hdp : 1 ≤ d) (hE : jEnd X none 0 0 (fun r0 n0 h0 => r0 = none ∧ n0 = jN ∧ h0 = jE (jmix r cE))) : ∀ (c : jS), m_must_P28 c = some ((), cE) → J X 0 0 jN (jE (jmix r c)) [(0, .ref 30)] [] 28 := by
  intro c h
  unfold m_must_P28 at h
  refine j_aload_n (pc := 28) hX dX10_must_28 rfl rfl ?_
  refine k_getI (pc := 29) (x := (c 30 42)) hX fl_10_254 dX10_must_29 rfl rfl rfl ?_
  refine j_if_ne (pc := 32) (tgt := 40) hX dX10_must_32 (by decide) (fun z => ?_) (fun z => ?_)
  · replace h := ite_f z h
    obtain ⟨_, h⟩ := Prod.mk.inj (Option.some.inj h)
    subst h
    exact j_vret (pc := 40) hX hE dX10_must_40 (Nat.le_refl 0) (Nat.le_refl 0) ⟨rfl, rfl, rfl⟩
  · replace h := ite_t z h
    refine j_aload_n (pc := 35) hX dX10_must_35 rfl rfl ?_
    refine j_iconst (pc := 36) (v := (1 : Int32)) hX dX10_must_36 (by decide) ?_
    obtain ⟨c1, hc, h⟩ := lt_some h
    refine k_putI (pc := 37) (c' := jmix r c1) hX pfl_10_254 dX10_must_37 rfl rfl (fun _ => ⟨rfl, rfl⟩) (jmix_me rfl hc) ?_
    obtain ⟨_, h⟩ := Prod.mk.inj (Option.some.inj h)
    subst h
    exact j_vret (pc := 40) hX hE dX10_must_40 (Nat.le_refl 0) (Nat.le_refl 0) ⟨rfl, rfl, rfl⟩
set_option maxHeartbeats 4000000 in
set_option maxRecDepth 100000 in
theorem t_m_must {l : Launch} {D : va_G} {G : Nat → ClassId} {d : Nat} (hdp : 1 ≤ d) {c r : jS} {a1 : Int32} {cE : jS} (h : m_must c a1 = some ((), cE)) : jC l D G d M_m_must [.ref 30, .int a1] (jmix r c) none (jmix r cE) := by
  refine jM_of rfl (Nat.le_of_ble_eq_true rfl) ?_
  intro X hl hD hG _ _ hX hE _
  subst hl hD hG
  unfold m_must at h
  show J X 0 0 jN (jE (jmix r c)) [(0, .ref 30), (1, .int a1)] [] 0
  refine j_aload_n (pc := 0) hX dX10_must_0 rfl rfl ?_
  refine k_getI (pc := 1) (x := (c 30 42)) hX fl_10_254 dX10_must_1 rfl rfl rfl ?_
  refine j_if_ne (pc := 4) (tgt := 28) hX dX10_must_4 (by decide) (fun z => ?_) (fun z => ?_)
  · replace h := ite_f z h
    refine j_sub (lv' := [(0, .ref 30)]) ⟨rfl, trivial⟩ ?_
    exact tj_m_must_P28 hX hdp hE _ h
  · replace h := ite_t z h
    refine j_aload_n (pc := 7) hX dX10_must_7 rfl rfl ?_
    obtain ⟨r2, h1, h⟩ := ob_some h
    refine k_callVI (pc := 8) (st := []) hX ln_10_257 dX10_must_8 (t_m_byteHere (d := 0) (Nat.le_refl _) h1) rfl rfl rfl (by omega) (Nat.le_of_ble_eq_true rfl) ?_
    refine j_iload_n (pc := 11) hX dX10_must_11 rfl rfl ?_
    refine j_icmp_ne (pc := 12) (tgt := 28) hX dX10_must_12 (by decide) (fun z => ?_) (fun z => ?_)
    · replace h := ite_f z h
      refine j_sub (lv' := [(0, .ref 30)]) ⟨rfl, trivial⟩ ?_
      exact tj_m_must_P28 hX hdp hE _ h
    · replace h := ite_t z h
      refine j_aload_n (pc := 15) hX dX10_must_15 rfl rfl ?_
      refine j_dup (pc := 16) hX dX10_must_16 rfl ?_
      refine k_getI (pc := 17) (x := (c 30 41)) hX fl_10_251 dX10_must_17 rfl rfl rfl ?_
      refine j_iconst (pc := 20) (v := (1 : Int32)) hX dX10_must_20 (by decide) ?_
      refine j_iadd (pc := 21) hX dX10_must_21 ?_
      obtain ⟨c3, hc, h⟩ := lt_some h
      refine k_putI (pc := 22) (c' := jmix r c3) hX pfl_10_251 dX10_must_22 rfl rfl (fun _ => ⟨rfl, rfl⟩) (jmix_me rfl hc) ?_
      refine j_goto (pc := 25) (tgt := 40) hX dX10_must_25 (by decide) ?_
      obtain ⟨_, h⟩ := Prod.mk.inj (Option.some.inj h)
      subst h
      exact j_vret (pc := 40) hX hE dX10_must_40 (Nat.le_refl 0) (Nat.le_refl 0) ⟨rfl, rfl, rfl⟩

set_option maxHeartbeats 4000000 in
set_option maxRecDepth 100000 in
theorem tj_m_mustLetter_P38 {X : jX} {d : Nat} {r : jS} {vE : Int32} {cE : jS} (hX : jOk X RX10 cX10_mustLetter 2 d) (hdp : 1 ≤ d) (hE : jEnd X (some .int) 0 0 (fun r0 n0 h0 => r0 = (some (.int vE)) ∧ n0 = jN ∧ h0 = jE (jmix r cE))) : ∀ (c : jS), m_mustLetter_P38 c = some (vE, cE) → J X 0 0 jN (jE (jmix r c)) [(0, .ref 30)] [] 38 := by
  intro c h
  unfold m_mustLetter_P38 at h
  refine j_aload_n (pc := 38) hX dX10_mustLetter_38 rfl rfl ?_
  refine j_aload_n (pc := 39) hX dX10_mustLetter_39 rfl rfl ?_
  refine k_getI (pc := 40) (x := (c 30 42)) hX fl_10_254 dX10_mustLetter_40 rfl rfl rfl ?_
  refine j_if_ne (pc := 43) (tgt := 50) hX dX10_mustLetter_43 (by decide) (fun z => ?_) (fun z => ?_)
  · replace h := ite_f z h
    refine j_aload_n (pc := 50) hX dX10_mustLetter_50 rfl rfl ?_
    refine k_getI (pc := 51) (x := (c 30 42)) hX fl_10_254 dX10_mustLetter_51 rfl rfl rfl ?_
    obtain ⟨c2, hc, h⟩ := lt_some h
    refine k_putI (pc := 54) (c' := jmix r c2) hX pfl_10_254 dX10_mustLetter_54 rfl rfl (fun _ => ⟨rfl, rfl⟩) (jmix_me rfl hc) ?_
    refine j_iconst (pc := 57) (v := (0 : Int32)) hX dX10_mustLetter_57 (by decide) ?_
    obtain ⟨h, h0⟩ := Prod.mk.inj (Option.some.inj h)
    subst h h0
    exact j_iret (pc := 58) hX hE rfl rfl dX10_mustLetter_58 (Nat.le_refl 0) (Nat.le_refl 0) ⟨rfl, rfl, rfl⟩
  · replace h := ite_t z h
    refine j_iconst (pc := 46) (v := (1 : Int32)) hX dX10_mustLetter_46 (by decide) ?_
    refine j_goto (pc := 47) (tgt := 54) hX dX10_mustLetter_47 (by decide) ?_
    obtain ⟨c3, hc, h⟩ := lt_some h
    refine k_putI (pc := 54) (c' := jmix r c3) hX pfl_10_254 dX10_mustLetter_54 rfl rfl (fun _ => ⟨rfl, rfl⟩) (jmix_me rfl hc) ?_
    refine j_iconst (pc := 57) (v := (0 : Int32)) hX dX10_mustLetter_57 (by decide) ?_
    obtain ⟨h, h0⟩ := Prod.mk.inj (Option.some.inj h)
    subst h h0
    exact j_iret (pc := 58) hX hE rfl rfl dX10_mustLetter_58 (Nat.le_refl 0) (Nat.le_refl 0) ⟨rfl, rfl, rfl⟩
set_option maxHeartbeats 4000000 in
set_option maxRecDepth 100000 in
theorem t_m_mustLetter {l : Launch} {D : va_G} {G : Nat → ClassId} {d : Nat} (hdp : 1 ≤ d) {c r : jS} {vE : Int32} {cE : jS} (h : m_mustLetter c = some (vE, cE)) : jC l D G d M_m_mustLetter [.ref 30] (jmix r c) (some (.int vE)) (jmix r cE) := by
  refine jM_of rfl (Nat.le_of_ble_eq_true rfl) ?_
  intro X hl hD hG _ _ hX hE _
  subst hl hD hG
  unfold m_mustLetter at h
  show J X 0 0 jN (jE (jmix r c)) [(0, .ref 30)] [] 0
  refine j_aload_n (pc := 0) hX dX10_mustLetter_0 rfl rfl ?_
  obtain ⟨r1, h1, h⟩ := ob_some h
  refine k_callVI (pc := 1) (st := []) hX ln_10_257 dX10_mustLetter_1 (t_m_byteHere (d := 0) (Nat.le_refl _) h1) rfl rfl rfl (by omega) (Nat.le_of_ble_eq_true rfl) ?_
  refine j_istore_n (pc := 4) hX dX10_mustLetter_4 rfl (by decide) (by decide) ?_
  refine j_aload_n (pc := 5) hX dX10_mustLetter_5 rfl rfl ?_
  refine k_getI (pc := 6) (x := (c 30 42)) hX fl_10_254 dX10_mustLetter_6 rfl rfl rfl ?_
  refine j_if_ne (pc := 9) (tgt := 38) hX dX10_mustLetter_9 (by decide) (fun z => ?_) (fun z => ?_)
  · replace h := ite_f z h
    refine j_sub (lv' := [(0, .ref 30)]) ⟨rfl, trivial⟩ ?_
    exact tj_m_mustLetter_P38 hX hdp hE _ h
  · replace h := ite_t z h
    refine j_iload_n (pc := 12) hX dX10_mustLetter_12 rfl rfl ?_
    refine j_bipush (pc := 13) (v := (97 : Int32)) hX dX10_mustLetter_13 (by decide) ?_
    refine j_bipush (pc := 15) (v := (122 : Int32)) hX dX10_mustLetter_15 (by decide) ?_
    obtain ⟨r4, h1, h⟩ := ob_some h
    refine k_callSI (pc := 17) (st := []) hX ln_10_3 dX10_mustLetter_17 (t_m_in (d := 0) (Nat.le_refl _) h1) rfl rfl (by omega) (Nat.le_of_ble_eq_true rfl) ?_
    refine j_if_eq (pc := 20) (tgt := 38) hX dX10_mustLetter_20 (by decide) (fun z => ?_) (fun z => ?_)
    · replace h := ite_t z h
      refine j_sub (lv' := [(0, .ref 30)]) ⟨rfl, trivial⟩ ?_
      exact tj_m_mustLetter_P38 hX hdp hE _ h
    · replace h := ite_f z h
      refine j_aload_n (pc := 23) hX dX10_mustLetter_23 rfl rfl ?_
      refine j_dup (pc := 24) hX dX10_mustLetter_24 rfl ?_
      refine k_getI (pc := 25) (x := (c 30 41)) hX fl_10_251 dX10_mustLetter_25 rfl rfl rfl ?_
      refine j_iconst (pc := 28) (v := (1 : Int32)) hX dX10_mustLetter_28 (by decide) ?_
      refine j_iadd (pc := 29) hX dX10_mustLetter_29 ?_
      obtain ⟨c5, hc, h⟩ := lt_some h
      refine k_putI (pc := 30) (c' := jmix r c5) hX pfl_10_251 dX10_mustLetter_30 rfl rfl (fun _ => ⟨rfl, rfl⟩) (jmix_me rfl hc) ?_
      refine j_iload_n (pc := 33) hX dX10_mustLetter_33 rfl rfl ?_
      refine j_bipush (pc := 34) (v := (97 : Int32)) hX dX10_mustLetter_34 (by decide) ?_
      refine j_isub (pc := 36) hX dX10_mustLetter_36 ?_
      obtain ⟨h, h0⟩ := Prod.mk.inj (Option.some.inj h)
      subst h h0
      exact j_iret (pc := 37) hX hE rfl rfl dX10_mustLetter_37 (Nat.le_refl 0) (Nat.le_refl 0) ⟨rfl, rfl, rfl⟩

set_option maxHeartbeats 4000000 in
set_option maxRecDepth 100000 in
theorem t_m_made {l : Launch} {D : va_G} {G : Nat → ClassId} {d : Nat} (hdp : 0 ≤ d) {c r : jS} {a1 : Int32} {cE : jS} (h : m_made c a1 = some ((), cE)) : jC l D G d M_m_made [.ref 30, .int a1] (jmix r c) none (jmix r cE) := by
  refine jM_of rfl (Nat.le_of_ble_eq_true rfl) ?_
  intro X hl hD hG _ _ hX hE _
  subst hl hD hG
  unfold m_made at h
  show J X 0 0 jN (jE (jmix r c)) [(0, .ref 30), (1, .int a1)] [] 0
  refine j_aload_n (pc := 0) hX dX10_made_0 rfl rfl ?_
  refine j_iload_n (pc := 1) hX dX10_made_1 rfl rfl ?_
  obtain ⟨c1, hc, h⟩ := lt_some h
  refine k_putI (pc := 2) (c' := jmix r c1) hX pfl_10_151 dX10_made_2 rfl rfl (fun _ => ⟨rfl, rfl⟩) (jmix_me rfl hc) ?_
  refine j_aload_n (pc := 5) hX dX10_made_5 rfl rfl ?_
  refine j_iload_n (pc := 6) hX dX10_made_6 rfl rfl ?_
  refine j_bipush (pc := 7) (v := (-3 : Int32)) hX dX10_made_7 (by decide) ?_
  refine j_icmp_ne (pc := 9) (tgt := 16) hX dX10_made_9 (by decide) (fun z => ?_) (fun z => ?_)
  · replace h := ite_f z h
    refine j_aload_n (pc := 16) hX dX10_made_16 rfl rfl ?_
    refine k_getI (pc := 17) (x := (c1 30 42)) hX fl_10_254 dX10_made_17 rfl rfl rfl ?_
    obtain ⟨c2, hc, h⟩ := lt_some h
    refine k_putI (pc := 20) (c' := jmix r c2) hX pfl_10_254 dX10_made_20 rfl rfl (fun _ => ⟨rfl, rfl⟩) (jmix_me rfl hc) ?_
    obtain ⟨_, h⟩ := Prod.mk.inj (Option.some.inj h)
    subst h
    exact j_vret (pc := 23) hX hE dX10_made_23 (Nat.le_refl 0) (Nat.le_refl 0) ⟨rfl, rfl, rfl⟩
  · replace h := ite_t z h
    refine j_iconst (pc := 12) (v := (2 : Int32)) hX dX10_made_12 (by decide) ?_
    refine j_goto (pc := 13) (tgt := 20) hX dX10_made_13 (by decide) ?_
    obtain ⟨c3, hc, h⟩ := lt_some h
    refine k_putI (pc := 20) (c' := jmix r c3) hX pfl_10_254 dX10_made_20 rfl rfl (fun _ => ⟨rfl, rfl⟩) (jmix_me rfl hc) ?_
    obtain ⟨_, h⟩ := Prod.mk.inj (Option.some.inj h)
    subst h
    exact j_vret (pc := 23) hX hE dX10_made_23 (Nat.le_refl 0) (Nat.le_refl 0) ⟨rfl, rfl, rfl⟩

set_option maxHeartbeats 4000000 in
set_option maxRecDepth 100000 in
theorem tj_m_readType_P191_7 {X : jX} {d : Nat} {r : jS} {vE : Int32} {cE : jS} (hX : jOk X RX10 cX10_readType 4 d) (hdp : 2 ≤ d) (hE : jEnd X (some .int) 0 0 (fun r0 n0 h0 => r0 = (some (.int vE)) ∧ n0 = jN ∧ h0 = jE (jmix r cE))) {k_7 : Nat} (ih_7 : ∀ (v1 : Int32) (v2 : Int32) (v3 : Int32) (c : jS), lpk (fun s : (Int32 × Int32 × Int32 × jS) => m_readType_S7 s.1 s.2.1 s.2.2.1 s.2.2.2) k_7 (v1, v2, v3, c) = some (vE, cE) → J X 0 0 jN (jE (jmix r c)) [(0, .ref 30), (1, .int v1), (2, .int v2), (3, .int v3)] [] 7) : ∀ (v1 : Int32) (v3 : Int32) (s0 : Int32) (c : jS), lq (fun s : (Int32 × Int32 × Int32 × jS) => m_readType_S7 s.1 s.2.1 s.2.2.1 s.2.2.2) k_7 (vE, cE) (m_readType_P191_7 v1 v3 s0 c) → J X 0 0 jN (jE (jmix r c)) [(0, .ref 30), (1, .int v1), (3, .int v3)] [.int s0] 191 := by
  intro v1 v3 s0 c h
  conv at h => arg 4; unfold m_readType_P191_7
  refine j_istore_n (pc := 191) hX dX10_readType_191 rfl (by decide) (by decide) ?_
  refine j_aload_n (pc := 192) hX dX10_readType_192 rfl rfl ?_
  refine j_iload_n (pc := 193) hX dX10_readType_193 rfl rfl ?_
  refine j_bipush (pc := 194) (v := (-3 : Int32)) hX dX10_readType_194 (by decide) ?_
  refine j_icmp_ne (pc := 196) (tgt := 203) hX dX10_readType_196 (by decide) (fun z => ?_) (fun z => ?_)
  · replace h := lq_f z h
    refine j_aload_n (pc := 203) hX dX10_readType_203 rfl rfl ?_
    refine k_getI (pc := 204) (x := (c 30 42)) hX fl_10_254 dX10_readType_204 rfl rfl rfl ?_
    obtain ⟨c2, hc, h⟩ := lq_lt h
    refine k_putI (pc := 207) (c' := jmix r c2) hX pfl_10_254 dX10_readType_207 rfl rfl (fun _ => ⟨rfl, rfl⟩) (jmix_me rfl hc) ?_
    refine j_goto (pc := 210) (tgt := 7) hX dX10_readType_210 (by decide) ?_
    refine j_sub (lv' := [(0, .ref 30), (1, .int v1), (2, .int s0), (3, .int v3)]) ⟨rfl, rfl, rfl, rfl, trivial⟩ ?_
    exact ih_7 _ _ _ _ (lq_l h)
  · replace h := lq_t z h
    refine j_iconst (pc := 199) (v := (2 : Int32)) hX dX10_readType_199 (by decide) ?_
    refine j_goto (pc := 200) (tgt := 207) hX dX10_readType_200 (by decide) ?_
    obtain ⟨c3, hc, h⟩ := lq_lt h
    refine k_putI (pc := 207) (c' := jmix r c3) hX pfl_10_254 dX10_readType_207 rfl rfl (fun _ => ⟨rfl, rfl⟩) (jmix_me rfl hc) ?_
    refine j_goto (pc := 210) (tgt := 7) hX dX10_readType_210 (by decide) ?_
    refine j_sub (lv' := [(0, .ref 30), (1, .int v1), (2, .int s0), (3, .int v3)]) ⟨rfl, rfl, rfl, rfl, trivial⟩ ?_
    exact ih_7 _ _ _ _ (lq_l h)
set_option maxHeartbeats 4000000 in
set_option maxRecDepth 100000 in
theorem tj_m_readType_P103_7 {X : jX} {d : Nat} {r : jS} {vE : Int32} {cE : jS} (hX : jOk X RX10 cX10_readType 4 d) (hdp : 2 ≤ d) (hE : jEnd X (some .int) 0 0 (fun r0 n0 h0 => r0 = (some (.int vE)) ∧ n0 = jN ∧ h0 = jE (jmix r cE))) {k_7 : Nat} (ih_7 : ∀ (v1 : Int32) (v2 : Int32) (v3 : Int32) (c : jS), lpk (fun s : (Int32 × Int32 × Int32 × jS) => m_readType_S7 s.1 s.2.1 s.2.2.1 s.2.2.2) k_7 (v1, v2, v3, c) = some (vE, cE) → J X 0 0 jN (jE (jmix r c)) [(0, .ref 30), (1, .int v1), (2, .int v2), (3, .int v3)] [] 7) : ∀ (v1 : Int32) (v2 : Int32) (v3 : Int32) (c : jS), lq (fun s : (Int32 × Int32 × Int32 × jS) => m_readType_S7 s.1 s.2.1 s.2.2.1 s.2.2.2) k_7 (vE, cE) (m_readType_P103_7 v1 v2 v3 c) → J X 0 0 jN (jE (jmix r c)) [(0, .ref 30), (1, .int v1), (2, .int v2), (3, .int v3)] [] 103 := by
  intro v1 v2 v3 c h
  conv at h => arg 4; unfold m_readType_P103_7
  refine j_iload_n (pc := 103) hX dX10_readType_103 rfl rfl ?_
  refine j_if_eq (pc := 104) (tgt := 120) hX dX10_readType_104 (by decide) (fun z => ?_) (fun z => ?_)
  · replace h := lq_t z h
    refine j_aload_n (pc := 120) hX dX10_readType_120 rfl rfl ?_
    refine k_getR (pc := 121) (q := 58) hX fl_10_102 dX10_readType_121 rfl rfl ?_
    refine j_iload_n (pc := 124) hX dX10_readType_124 rfl rfl ?_
    refine j_iconst (pc := 125) (v := (1 : Int32)) hX dX10_readType_125 (by decide) ?_
    refine j_isub (pc := 126) hX dX10_readType_126 ?_
    obtain ⟨hg, h⟩ := lq_gd h
    refine k_iald (pc := 127) (x := (c 58 ((v1 - (1 : Int32))).toNatClampNeg)) hX dX10_readType_127 rfl hg rfl ?_
    refine j_if_ne (pc := 128) (tgt := 160) hX dX10_readType_128 (by decide) (fun z => ?_) (fun z => ?_)
    · replace h := lq_f z h
      refine j_aload_n (pc := 160) hX dX10_readType_160 rfl rfl ?_
      refine j_bipush (pc := 161) (v := (41 : Int32)) hX dX10_readType_161 (by decide) ?_
      obtain ⟨_u, c1, h1, h⟩ := lq_bd h
      refine k_callVV (pc := 163) (st := []) hX ln_10_261 dX10_readType_163 (t_m_must (d := 1) (Nat.le_refl _) h1) rfl rfl rfl (by omega) (Nat.le_of_ble_eq_true rfl) ?_
      refine j_iinc (pc := 166) hX dX10_readType_166 rfl (v := (v1 - (1 : Int32))) (iinc_m1 _) (by decide) (by decide) ?_
      refine j_aload_n (pc := 169) hX dX10_readType_169 rfl rfl ?_
      refine k_getI (pc := 170) (x := (c1 30 42)) hX fl_10_254 dX10_readType_170 rfl rfl rfl ?_
      refine j_if_ne (pc := 173) (tgt := 190) hX dX10_readType_173 (by decide) (fun z => ?_) (fun z => ?_)
      · replace h := lq_f z h
        refine j_iconst (pc := 190) (v := (0 : Int32)) hX dX10_readType_190 (by decide) ?_
        refine j_sub (lv' := [(0, .ref 30), (1, .int (v1 - (1 : Int32))), (3, .int v3)]) ⟨rfl, rfl, rfl, trivial⟩ ?_
        exact tj_m_readType_P191_7 hX hdp hE ih_7 _ _ _ _ h
      · replace h := lq_t z h
        refine j_aload_n (pc := 176) hX dX10_readType_176 rfl rfl ?_
        refine j_aload_n (pc := 177) hX dX10_readType_177 rfl rfl ?_
        refine k_getR (pc := 178) (q := 57) hX fl_10_99 dX10_readType_178 rfl rfl ?_
        refine j_iload_n (pc := 181) hX dX10_readType_181 rfl rfl ?_
        obtain ⟨hg, h⟩ := lq_gd h
        refine k_iald (pc := 182) (x := (c1 57 ((v1 - (1 : Int32))).toNatClampNeg)) hX dX10_readType_182 rfl hg rfl ?_
        refine j_iload_n (pc := 183) hX dX10_readType_183 rfl rfl ?_
        obtain ⟨r4, c5, h1, h⟩ := lq_bd h
        refine k_callVI (pc := 184) (st := []) hX ln_10_112 dX10_readType_184 (t_m_arrowOf (d := 0) (Nat.le_refl _) h1) rfl rfl rfl (by omega) (Nat.le_of_ble_eq_true rfl) ?_
        refine j_goto (pc := 187) (tgt := 191) hX dX10_readType_187 (by decide) ?_
        refine j_sub (lv' := [(0, .ref 30), (1, .int (v1 - (1 : Int32))), (3, .int v3)]) ⟨rfl, rfl, rfl, trivial⟩ ?_
        exact tj_m_readType_P191_7 hX hdp hE ih_7 _ _ _ _ h
    · replace h := lq_t z h
      refine j_aload_n (pc := 131) hX dX10_readType_131 rfl rfl ?_
      refine j_bipush (pc := 132) (v := (62 : Int32)) hX dX10_readType_132 (by decide) ?_
      obtain ⟨_u, c6, h1, h⟩ := lq_bd h
      refine k_callVV (pc := 134) (st := []) hX ln_10_261 dX10_readType_134 (t_m_must (d := 1) (Nat.le_refl _) h1) rfl rfl rfl (by omega) (Nat.le_of_ble_eq_true rfl) ?_
      refine j_aload_n (pc := 137) hX dX10_readType_137 rfl rfl ?_
      refine k_getR (pc := 138) (q := 57) hX fl_10_99 dX10_readType_138 rfl rfl ?_
      refine j_iload_n (pc := 141) hX dX10_readType_141 rfl rfl ?_
      refine j_iconst (pc := 142) (v := (1 : Int32)) hX dX10_readType_142 (by decide) ?_
      refine j_isub (pc := 143) hX dX10_readType_143 ?_
      refine j_iload_n (pc := 144) hX dX10_readType_144 rfl rfl ?_
      obtain ⟨hg, h⟩ := lq_gd h
      obtain ⟨c7, hc, h⟩ := lq_lt h
      refine k_iast (pc := 145) (c' := jmix r c7) hX dX10_readType_145 rfl hg (jmix_me rfl hc) ?_
      refine j_aload_n (pc := 146) hX dX10_readType_146 rfl rfl ?_
      refine k_getR (pc := 147) (q := 58) hX fl_10_102 dX10_readType_147 rfl rfl ?_
      refine j_iload_n (pc := 150) hX dX10_readType_150 rfl rfl ?_
      refine j_iconst (pc := 151) (v := (1 : Int32)) hX dX10_readType_151 (by decide) ?_
      refine j_isub (pc := 152) hX dX10_readType_152 ?_
      refine j_iconst (pc := 153) (v := (1 : Int32)) hX dX10_readType_153 (by decide) ?_
      obtain ⟨hg, h⟩ := lq_gd h
      obtain ⟨c8, hc, h⟩ := lq_lt h
      refine k_iast (pc := 154) (c' := jmix r c8) hX dX10_readType_154 rfl hg (jmix_me rfl hc) ?_
      refine j_iconst (pc := 155) (v := (1 : Int32)) hX dX10_readType_155 (by decide) ?_
      refine j_istore_n (pc := 156) hX dX10_readType_156 rfl (by decide) (by decide) ?_
      refine j_goto (pc := 157) (tgt := 7) hX dX10_readType_157 (by decide) ?_
      refine j_sub (lv' := [(0, .ref 30), (1, .int v1), (2, .int v2), (3, .int (1 : Int32))]) ⟨rfl, rfl, rfl, rfl, trivial⟩ ?_
      exact ih_7 _ _ _ _ (lq_l h)
  · replace h := lq_f z h
    refine j_aload_n (pc := 107) hX dX10_readType_107 rfl rfl ?_
    refine j_bipush (pc := 108) (v := (105 : Int32)) hX dX10_readType_108 (by decide) ?_
    obtain ⟨_u, c9, h1, h⟩ := lq_bd h
    refine k_callVV (pc := 110) (st := []) hX ln_10_261 dX10_readType_110 (t_m_must (d := 1) (Nat.le_refl _) h1) rfl rfl rfl (by omega) (Nat.le_of_ble_eq_true rfl) ?_
    refine j_iconst (pc := 113) (v := (0 : Int32)) hX dX10_readType_113 (by decide) ?_
    refine j_istore_n (pc := 114) hX dX10_readType_114 rfl (by decide) (by decide) ?_
    refine j_iconst (pc := 115) (v := (0 : Int32)) hX dX10_readType_115 (by decide) ?_
    refine j_istore_n (pc := 116) hX dX10_readType_116 rfl (by decide) (by decide) ?_
    refine j_goto (pc := 117) (tgt := 7) hX dX10_readType_117 (by decide) ?_
    refine j_sub (lv' := [(0, .ref 30), (1, .int v1), (2, .int (0 : Int32)), (3, .int (0 : Int32))]) ⟨rfl, rfl, rfl, rfl, trivial⟩ ?_
    exact ih_7 _ _ _ _ (lq_l h)
set_option maxHeartbeats 4000000 in
set_option maxRecDepth 100000 in
theorem tj_m_readType_P67_7 {X : jX} {d : Nat} {r : jS} {vE : Int32} {cE : jS} (hX : jOk X RX10 cX10_readType 4 d) (hdp : 2 ≤ d) (hE : jEnd X (some .int) 0 0 (fun r0 n0 h0 => r0 = (some (.int vE)) ∧ n0 = jN ∧ h0 = jE (jmix r cE))) {k_7 : Nat} (ih_7 : ∀ (v1 : Int32) (v2 : Int32) (v3 : Int32) (c : jS), lpk (fun s : (Int32 × Int32 × Int32 × jS) => m_readType_S7 s.1 s.2.1 s.2.2.1 s.2.2.2) k_7 (v1, v2, v3, c) = some (vE, cE) → J X 0 0 jN (jE (jmix r c)) [(0, .ref 30), (1, .int v1), (2, .int v2), (3, .int v3)] [] 7) : ∀ (v1 : Int32) (v2 : Int32) (v3 : Int32) (c : jS), lq (fun s : (Int32 × Int32 × Int32 × jS) => m_readType_S7 s.1 s.2.1 s.2.2.1 s.2.2.2) k_7 (vE, cE) (m_readType_P67_7 v1 v2 v3 c) → J X 0 0 jN (jE (jmix r c)) [(0, .ref 30), (1, .int v1), (2, .int v2), (3, .int v3)] [] 67 := by
  intro v1 v2 v3 c h
  conv at h => arg 4; unfold m_readType_P67_7
  refine j_iload_n (pc := 67) hX dX10_readType_67 rfl rfl ?_
  refine j_if_eq (pc := 68) (tgt := 103) hX dX10_readType_68 (by decide) (fun z => ?_) (fun z => ?_)
  · replace h := lq_t z h
    refine j_sub (lv' := [(0, .ref 30), (1, .int v1), (2, .int v2), (3, .int v3)]) ⟨rfl, rfl, rfl, rfl, trivial⟩ ?_
    exact tj_m_readType_P103_7 hX hdp hE ih_7 _ _ _ _ h
  · replace h := lq_f z h
    refine j_aload_n (pc := 71) hX dX10_readType_71 rfl rfl ?_
    obtain ⟨r10, h1, h⟩ := lq_ob h
    refine k_callVI (pc := 72) (st := []) hX ln_10_257 dX10_readType_72 (t_m_byteHere (d := 0) (Nat.le_refl _) h1) rfl rfl rfl (by omega) (Nat.le_of_ble_eq_true rfl) ?_
    refine j_bipush (pc := 75) (v := (40 : Int32)) hX dX10_readType_75 (by decide) ?_
    refine j_icmp_ne (pc := 77) (tgt := 103) hX dX10_readType_77 (by decide) (fun z => ?_) (fun z => ?_)
    · replace h := lq_f z h
      refine j_sub (lv' := [(0, .ref 30), (1, .int v1), (2, .int v2), (3, .int v3)]) ⟨rfl, rfl, rfl, rfl, trivial⟩ ?_
      exact tj_m_readType_P103_7 hX hdp hE ih_7 _ _ _ _ h
    · replace h := lq_t z h
      refine j_aload_n (pc := 80) hX dX10_readType_80 rfl rfl ?_
      refine j_dup (pc := 81) hX dX10_readType_81 rfl ?_
      refine k_getI (pc := 82) (x := (c 30 41)) hX fl_10_251 dX10_readType_82 rfl rfl rfl ?_
      refine j_iconst (pc := 85) (v := (1 : Int32)) hX dX10_readType_85 (by decide) ?_
      refine j_iadd (pc := 86) hX dX10_readType_86 ?_
      obtain ⟨c11, hc, h⟩ := lq_lt h
      refine k_putI (pc := 87) (c' := jmix r c11) hX pfl_10_251 dX10_readType_87 rfl rfl (fun _ => ⟨rfl, rfl⟩) (jmix_me rfl hc) ?_
      refine j_aload_n (pc := 90) hX dX10_readType_90 rfl rfl ?_
      refine k_getR (pc := 91) (q := 58) hX fl_10_102 dX10_readType_91 rfl rfl ?_
      refine j_iload_n (pc := 94) hX dX10_readType_94 rfl rfl ?_
      refine j_iconst (pc := 95) (v := (0 : Int32)) hX dX10_readType_95 (by decide) ?_
      obtain ⟨hg, h⟩ := lq_gd h
      obtain ⟨c12, hc, h⟩ := lq_lt h
      refine k_iast (pc := 96) (c' := jmix r c12) hX dX10_readType_96 rfl hg (jmix_me rfl hc) ?_
      refine j_iinc (pc := 97) hX dX10_readType_97 rfl (v := (v1 + (1 : Int32))) rfl (by decide) (by decide) ?_
      refine j_goto (pc := 100) (tgt := 7) hX dX10_readType_100 (by decide) ?_
      refine j_sub (lv' := [(0, .ref 30), (1, .int (v1 + (1 : Int32))), (2, .int v2), (3, .int v3)]) ⟨rfl, rfl, rfl, rfl, trivial⟩ ?_
      exact ih_7 _ _ _ _ (lq_l h)
set_option maxHeartbeats 4000000 in
set_option maxRecDepth 100000 in
theorem tj_m_readType_P22_7 {X : jX} {d : Nat} {r : jS} {vE : Int32} {cE : jS} (hX : jOk X RX10 cX10_readType 4 d) (hdp : 2 ≤ d) (hE : jEnd X (some .int) 0 0 (fun r0 n0 h0 => r0 = (some (.int vE)) ∧ n0 = jN ∧ h0 = jE (jmix r cE))) {k_7 : Nat} (ih_7 : ∀ (v1 : Int32) (v2 : Int32) (v3 : Int32) (c : jS), lpk (fun s : (Int32 × Int32 × Int32 × jS) => m_readType_S7 s.1 s.2.1 s.2.2.1 s.2.2.2) k_7 (v1, v2, v3, c) = some (vE, cE) → J X 0 0 jN (jE (jmix r c)) [(0, .ref 30), (1, .int v1), (2, .int v2), (3, .int v3)] [] 7) : ∀ (v1 : Int32) (v2 : Int32) (v3 : Int32) (c : jS), lq (fun s : (Int32 × Int32 × Int32 × jS) => m_readType_S7 s.1 s.2.1 s.2.2.1 s.2.2.2) k_7 (vE, cE) (m_readType_P22_7 v1 v2 v3 c) → J X 0 0 jN (jE (jmix r c)) [(0, .ref 30), (1, .int v1), (2, .int v2), (3, .int v3)] [] 22 := by
  intro v1 v2 v3 c h
  conv at h => arg 4; unfold m_readType_P22_7
  refine j_iload_n (pc := 22) hX dX10_readType_22 rfl rfl ?_
  refine j_if_eq (pc := 23) (tgt := 67) hX dX10_readType_23 (by decide) (fun z => ?_) (fun z => ?_)
  · replace h := lq_t z h
    refine j_sub (lv' := [(0, .ref 30), (1, .int v1), (2, .int v2), (3, .int v3)]) ⟨rfl, rfl, rfl, rfl, trivial⟩ ?_
    exact tj_m_readType_P67_7 hX hdp hE ih_7 _ _ _ _ h
  · replace h := lq_f z h
    refine j_aload_n (pc := 26) hX dX10_readType_26 rfl rfl ?_
    refine k_getI (pc := 27) (x := (c 30 14)) hX fl_10_145 dX10_readType_27 rfl rfl rfl ?_
    refine j_iload_n (pc := 30) hX dX10_readType_30 rfl rfl ?_
    refine j_iadd (pc := 31) hX dX10_readType_31 ?_
    refine j_bipush (pc := 32) (v := (40 : Int32)) hX dX10_readType_32 (by decide) ?_
    refine j_icmp_ne (pc := 34) (tgt := 67) hX dX10_readType_34 (by decide) (fun z => ?_) (fun z => ?_)
    · replace h := lq_f z h
      refine j_sub (lv' := [(0, .ref 30), (1, .int v1), (2, .int v2), (3, .int v3)]) ⟨rfl, rfl, rfl, rfl, trivial⟩ ?_
      exact tj_m_readType_P67_7 hX hdp hE ih_7 _ _ _ _ h
    · replace h := lq_t z h
      refine j_aload_n (pc := 37) hX dX10_readType_37 rfl rfl ?_
      refine j_aload_n (pc := 38) hX dX10_readType_38 rfl rfl ?_
      obtain ⟨r13, h1, h⟩ := lq_ob h
      refine k_callVI (pc := 39) (st := [.ref 30]) hX ln_10_257 dX10_readType_39 (t_m_byteHere (d := 0) (Nat.le_refl _) h1) rfl rfl rfl (by omega) (Nat.le_of_ble_eq_true rfl) ?_
      refine j_bipush (pc := 42) (v := (105 : Int32)) hX dX10_readType_42 (by decide) ?_
      refine j_icmp_eq (pc := 44) (tgt := 56) hX dX10_readType_44 (by decide) (fun z => ?_) (fun z => ?_)
      · replace h := lq_t z h
        refine j_iconst (pc := 56) (v := (2 : Int32)) hX dX10_readType_56 (by decide) ?_
        refine j_goto (pc := 57) (tgt := 61) hX dX10_readType_57 (by decide) ?_
        obtain ⟨c14, hc, h⟩ := lq_lt h
        refine k_putI (pc := 61) (c' := jmix r c14) hX pfl_10_254 dX10_readType_61 rfl rfl (fun _ => ⟨rfl, rfl⟩) (jmix_me rfl hc) ?_
        refine j_goto (pc := 64) (tgt := 7) hX dX10_readType_64 (by decide) ?_
        refine j_sub (lv' := [(0, .ref 30), (1, .int v1), (2, .int v2), (3, .int v3)]) ⟨rfl, rfl, rfl, rfl, trivial⟩ ?_
        exact ih_7 _ _ _ _ (lq_l h)
      · replace h := lq_f z h
        refine j_aload_n (pc := 47) hX dX10_readType_47 rfl rfl ?_
        obtain ⟨r15, h1, h⟩ := lq_ob h
        refine k_callVI (pc := 48) (st := [.ref 30]) hX ln_10_257 dX10_readType_48 (t_m_byteHere (d := 0) (Nat.le_refl _) h1) rfl rfl rfl (by omega) (Nat.le_of_ble_eq_true rfl) ?_
        refine j_bipush (pc := 51) (v := (40 : Int32)) hX dX10_readType_51 (by decide) ?_
        refine j_icmp_ne (pc := 53) (tgt := 60) hX dX10_readType_53 (by decide) (fun z => ?_) (fun z => ?_)
        · replace h := lq_f z h
          refine j_iconst (pc := 60) (v := (1 : Int32)) hX dX10_readType_60 (by decide) ?_
          obtain ⟨c16, hc, h⟩ := lq_lt h
          refine k_putI (pc := 61) (c' := jmix r c16) hX pfl_10_254 dX10_readType_61 rfl rfl (fun _ => ⟨rfl, rfl⟩) (jmix_me rfl hc) ?_
          refine j_goto (pc := 64) (tgt := 7) hX dX10_readType_64 (by decide) ?_
          refine j_sub (lv' := [(0, .ref 30), (1, .int v1), (2, .int v2), (3, .int v3)]) ⟨rfl, rfl, rfl, rfl, trivial⟩ ?_
          exact ih_7 _ _ _ _ (lq_l h)
        · replace h := lq_t z h
          refine j_iconst (pc := 56) (v := (2 : Int32)) hX dX10_readType_56 (by decide) ?_
          refine j_goto (pc := 57) (tgt := 61) hX dX10_readType_57 (by decide) ?_
          obtain ⟨c17, hc, h⟩ := lq_lt h
          refine k_putI (pc := 61) (c' := jmix r c17) hX pfl_10_254 dX10_readType_61 rfl rfl (fun _ => ⟨rfl, rfl⟩) (jmix_me rfl hc) ?_
          refine j_goto (pc := 64) (tgt := 7) hX dX10_readType_64 (by decide) ?_
          refine j_sub (lv' := [(0, .ref 30), (1, .int v1), (2, .int v2), (3, .int v3)]) ⟨rfl, rfl, rfl, rfl, trivial⟩ ?_
          exact ih_7 _ _ _ _ (lq_l h)
set_option maxHeartbeats 4000000 in
set_option maxRecDepth 100000 in
theorem tl_m_readType_L7 {X : jX} {d : Nat} {r : jS} {vE : Int32} {cE : jS} (hX : jOk X RX10 cX10_readType 4 d) (hdp : 2 ≤ d) (hE : jEnd X (some .int) 0 0 (fun r0 n0 h0 => r0 = (some (.int vE)) ∧ n0 = jN ∧ h0 = jE (jmix r cE))) : ∀ (v1 : Int32) (v2 : Int32) (v3 : Int32) (c : jS), m_readType_L7 v1 v2 v3 c = some (vE, cE) → J X 0 0 jN (jE (jmix r c)) [(0, .ref 30), (1, .int v1), (2, .int v2), (3, .int v3)] [] 7 := by
  intro v1 v2 v3 c h
  unfold m_readType_L7 at h
  replace h := lp_some h
  obtain ⟨k_7, h⟩ := h
  induction k_7 generalizing v1 v2 v3 c with
  | zero => cases h
  | succ k_7 ih_7 =>
    replace h : lq (fun s : (Int32 × Int32 × Int32 × jS) => m_readType_S7 s.1 s.2.1 s.2.2.1 s.2.2.2) k_7 (vE, cE) (m_readType_S7 v1 v2 v3 c) := lpk_succ (s := (v1, v2, v3, c)) h
    conv at h => arg 4; unfold m_readType_S7
    refine j_aload_n (pc := 7) hX dX10_readType_7 rfl rfl ?_
    refine k_getI (pc := 8) (x := (c 30 42)) hX fl_10_254 dX10_readType_8 rfl rfl rfl ?_
    refine j_if_ne (pc := 11) (tgt := 213) hX dX10_readType_11 (by decide) (fun z => ?_) (fun z => ?_)
    · replace h := lq_f z h
      refine j_iload_n (pc := 213) hX dX10_readType_213 rfl rfl ?_
      replace h := lq_r h
      obtain ⟨h, h0⟩ := Prod.mk.inj (Option.some.inj h)
      subst h h0
      exact j_iret (pc := 214) hX hE rfl rfl dX10_readType_214 (Nat.le_refl 0) (Nat.le_refl 0) ⟨rfl, rfl, rfl⟩
    · replace h := lq_t z h
      refine j_iload_n (pc := 14) hX dX10_readType_14 rfl rfl ?_
      refine j_if_ne (pc := 15) (tgt := 22) hX dX10_readType_15 (by decide) (fun z => ?_) (fun z => ?_)
      · replace h := lq_f z h
        refine j_sub (lv' := [(0, .ref 30), (1, .int v1), (2, .int v2), (3, .int v3)]) ⟨rfl, rfl, rfl, rfl, trivial⟩ ?_
        exact tj_m_readType_P22_7 hX hdp hE ih_7 _ _ _ _ h
      · replace h := lq_t z h
        refine j_iload_n (pc := 18) hX dX10_readType_18 rfl rfl ?_
        refine j_if_le (pc := 19) (tgt := 213) hX dX10_readType_19 (by decide) (fun z => ?_) (fun z => ?_)
        · replace h := lq_t z h
          refine j_iload_n (pc := 213) hX dX10_readType_213 rfl rfl ?_
          replace h := lq_r h
          obtain ⟨h, h0⟩ := Prod.mk.inj (Option.some.inj h)
          subst h h0
          exact j_iret (pc := 214) hX hE rfl rfl dX10_readType_214 (Nat.le_refl 0) (Nat.le_refl 0) ⟨rfl, rfl, rfl⟩
        · replace h := lq_f z h
          refine j_sub (lv' := [(0, .ref 30), (1, .int v1), (2, .int v2), (3, .int v3)]) ⟨rfl, rfl, rfl, rfl, trivial⟩ ?_
          exact tj_m_readType_P22_7 hX hdp hE ih_7 _ _ _ _ h
set_option maxHeartbeats 4000000 in
set_option maxRecDepth 100000 in
theorem t_m_readType {l : Launch} {D : va_G} {G : Nat → ClassId} {d : Nat} (hdp : 2 ≤ d) {c r : jS} {vE : Int32} {cE : jS} (h : m_readType c = some (vE, cE)) : jC l D G d M_m_readType [.ref 30] (jmix r c) (some (.int vE)) (jmix r cE) := by
  refine jM_of rfl (Nat.le_of_ble_eq_true rfl) ?_
  intro X hl hD hG _ _ hX hE _
  subst hl hD hG
  unfold m_readType at h
  show J X 0 0 jN (jE (jmix r c)) [(0, .ref 30)] [] 0
  refine j_iconst (pc := 0) (v := (0 : Int32)) hX dX10_readType_0 (by decide) ?_
  refine j_istore_n (pc := 1) hX dX10_readType_1 rfl (by decide) (by decide) ?_
  refine j_bipush (pc := 2) (v := (-2 : Int32)) hX dX10_readType_2 (by decide) ?_
  refine j_istore_n (pc := 4) hX dX10_readType_4 rfl (by decide) (by decide) ?_
  refine j_iconst (pc := 5) (v := (1 : Int32)) hX dX10_readType_5 (by decide) ?_
  refine j_istore_n (pc := 6) hX dX10_readType_6 rfl (by decide) (by decide) ?_
  refine j_sub (lv' := [(0, .ref 30), (1, .int (0 : Int32)), (2, .int (-2 : Int32)), (3, .int (1 : Int32))]) ⟨rfl, rfl, rfl, rfl, trivial⟩ ?_
  exact tl_m_readType_L7 hX hdp hE _ _ _ _ h

