set_option maxHeartbeats 4000000 in
set_option maxRecDepth 100000 in
theorem tj_m_typeOfNumbers_P135 {X : jX} {d : Nat} {r : jS} {cE : jS} (hX : jOk X RX10 cX10_typeOfNumbers 5 d) (hdp : 1 ≤ d) (hE : jEnd X none 0 0 (fun r0 n0 h0 => r0 = none ∧ n0 = jN ∧ h0 = jE (jmix r cE))) : ∀ (v2 : Int32) (v4 : Int32) (c : jS), m_typeOfNumbers_P135 v2 v4 c = some ((), cE) → J X 0 0 jN (jE (jmix r c)) [(0, .ref 30), (2, .int v2), (4, .int v4)] [] 135 := by
  intro v2 v4 c h
  unfold m_typeOfNumbers_P135 at h
  refine j_aload_n (pc := 135) hX dX10_typeOfNumbers_135 rfl rfl ?_
  refine j_iconst (pc := 136) (v := (3 : Int32)) hX dX10_typeOfNumbers_136 (by decide) ?_
  refine j_aload_n (pc := 137) hX dX10_typeOfNumbers_137 rfl rfl ?_
  refine j_iload_n (pc := 138) hX dX10_typeOfNumbers_138 rfl rfl ?_
  refine j_iload (pc := 139) hX dX10_typeOfNumbers_139 rfl ?_
  refine j_if_eq (pc := 141) (tgt := 148) hX dX10_typeOfNumbers_141 (by decide) (fun z => ?_) (fun z => ?_)
  · replace h := ite_t z h
    refine j_iconst (pc := 148) (v := (1 : Int32)) hX dX10_typeOfNumbers_148 (by decide) ?_
    obtain ⟨r2, h1, h⟩ := ob_some h
    refine k_callVI (pc := 149) (st := [.int (3 : Int32), .ref 30]) hX ln_10_126 dX10_typeOfNumbers_149 (t_m_part (d := 0) (Nat.le_refl _) h1) rfl rfl rfl (by omega) (Nat.le_of_ble_eq_true rfl) ?_
    obtain ⟨_u, c3, h1, h⟩ := bd_some h
    refine k_callVV (pc := 152) (st := []) hX ln_10_158 dX10_typeOfNumbers_152 (t_m_faults (d := 0) (Nat.le_refl _) h1) rfl rfl rfl (by omega) (Nat.le_of_ble_eq_true rfl) ?_
    refine j_goto (pc := 155) (tgt := 168) hX dX10_typeOfNumbers_155 (by decide) ?_
    obtain ⟨_, h⟩ := Prod.mk.inj (Option.some.inj h)
    subst h
    exact j_vret (pc := 168) hX hE dX10_typeOfNumbers_168 (Nat.le_refl 0) (Nat.le_refl 0) ⟨rfl, rfl, rfl⟩
  · replace h := ite_f z h
    refine j_iconst (pc := 144) (v := (2 : Int32)) hX dX10_typeOfNumbers_144 (by decide) ?_
    refine j_goto (pc := 145) (tgt := 149) hX dX10_typeOfNumbers_145 (by decide) ?_
    obtain ⟨r4, h1, h⟩ := ob_some h
    refine k_callVI (pc := 149) (st := [.int (3 : Int32), .ref 30]) hX ln_10_126 dX10_typeOfNumbers_149 (t_m_part (d := 0) (Nat.le_refl _) h1) rfl rfl rfl (by omega) (Nat.le_of_ble_eq_true rfl) ?_
    obtain ⟨_u, c5, h1, h⟩ := bd_some h
    refine k_callVV (pc := 152) (st := []) hX ln_10_158 dX10_typeOfNumbers_152 (t_m_faults (d := 0) (Nat.le_refl _) h1) rfl rfl rfl (by omega) (Nat.le_of_ble_eq_true rfl) ?_
    refine j_goto (pc := 155) (tgt := 168) hX dX10_typeOfNumbers_155 (by decide) ?_
    obtain ⟨_, h⟩ := Prod.mk.inj (Option.some.inj h)
    subst h
    exact j_vret (pc := 168) hX hE dX10_typeOfNumbers_168 (Nat.le_refl 0) (Nat.le_refl 0) ⟨rfl, rfl, rfl⟩
set_option maxHeartbeats 4000000 in
set_option maxRecDepth 100000 in
theorem tj_m_typeOfNumbers_P107 {X : jX} {d : Nat} {r : jS} {cE : jS} (hX : jOk X RX10 cX10_typeOfNumbers 5 d) (hdp : 1 ≤ d) (hE : jEnd X none 0 0 (fun r0 n0 h0 => r0 = none ∧ n0 = jN ∧ h0 = jE (jmix r cE))) : ∀ (v1 : Int32) (v2 : Int32) (v4 : Int32) (c : jS), m_typeOfNumbers_P107 v1 v2 v4 c = some ((), cE) → J X 0 0 jN (jE (jmix r c)) [(0, .ref 30), (1, .int v1), (2, .int v2), (4, .int v4)] [] 107 := by
  intro v1 v2 v4 c h
  unfold m_typeOfNumbers_P107 at h
  refine j_iload (pc := 107) hX dX10_typeOfNumbers_107 rfl ?_
  refine j_if_eq (pc := 109) (tgt := 128) hX dX10_typeOfNumbers_109 (by decide) (fun z => ?_) (fun z => ?_)
  · replace h := ite_t z h
    refine j_aload_n (pc := 128) hX dX10_typeOfNumbers_128 rfl rfl ?_
    refine k_getI (pc := 129) (x := (c 30 22)) hX fl_10_151 dX10_typeOfNumbers_129 rfl rfl rfl ?_
    refine j_if_eq (pc := 132) (tgt := 158) hX dX10_typeOfNumbers_132 (by decide) (fun z => ?_) (fun z => ?_)
    · replace h := ite_t z h
      refine j_aload_n (pc := 158) hX dX10_typeOfNumbers_158 rfl rfl ?_
      refine j_dup (pc := 159) hX dX10_typeOfNumbers_159 rfl ?_
      refine k_getI (pc := 160) (x := (c 30 14)) hX fl_10_145 dX10_typeOfNumbers_160 rfl rfl rfl ?_
      refine j_iconst (pc := 163) (v := (1 : Int32)) hX dX10_typeOfNumbers_163 (by decide) ?_
      refine j_isub (pc := 164) hX dX10_typeOfNumbers_164 ?_
      obtain ⟨c1, hc, h⟩ := lt_some h
      refine k_putI (pc := 165) (c' := jmix r c1) hX pfl_10_145 dX10_typeOfNumbers_165 rfl rfl (fun _ => ⟨rfl, rfl⟩) (jmix_me rfl hc) ?_
      obtain ⟨_, h⟩ := Prod.mk.inj (Option.some.inj h)
      subst h
      exact j_vret (pc := 168) hX hE dX10_typeOfNumbers_168 (Nat.le_refl 0) (Nat.le_refl 0) ⟨rfl, rfl, rfl⟩
    · replace h := ite_f z h
      refine j_sub (lv' := [(0, .ref 30), (2, .int v2), (4, .int v4)]) ⟨rfl, rfl, rfl, trivial⟩ ?_
      exact tj_m_typeOfNumbers_P135 hX hdp hE _ _ _ h
  · replace h := ite_f z h
    refine j_aload_n (pc := 112) hX dX10_typeOfNumbers_112 rfl rfl ?_
    refine k_getI (pc := 113) (x := (c 30 22)) hX fl_10_151 dX10_typeOfNumbers_113 rfl rfl rfl ?_
    refine j_aload_n (pc := 116) hX dX10_typeOfNumbers_116 rfl rfl ?_
    refine k_getR (pc := 117) (q := 46) hX fl_10_63 dX10_typeOfNumbers_117 rfl rfl ?_
    refine j_iload_n (pc := 120) hX dX10_typeOfNumbers_120 rfl rfl ?_
    obtain ⟨hg, h⟩ := gd_some h
    refine k_iald (pc := 121) (x := (c 46 (v1).toNatClampNeg)) hX dX10_typeOfNumbers_121 rfl hg rfl ?_
    refine j_icmp_eq (pc := 122) (tgt := 158) hX dX10_typeOfNumbers_122 (by decide) (fun z => ?_) (fun z => ?_)
    · replace h := ite_t z h
      refine j_aload_n (pc := 158) hX dX10_typeOfNumbers_158 rfl rfl ?_
      refine j_dup (pc := 159) hX dX10_typeOfNumbers_159 rfl ?_
      refine k_getI (pc := 160) (x := (c 30 14)) hX fl_10_145 dX10_typeOfNumbers_160 rfl rfl rfl ?_
      refine j_iconst (pc := 163) (v := (1 : Int32)) hX dX10_typeOfNumbers_163 (by decide) ?_
      refine j_isub (pc := 164) hX dX10_typeOfNumbers_164 ?_
      obtain ⟨c6, hc, h⟩ := lt_some h
      refine k_putI (pc := 165) (c' := jmix r c6) hX pfl_10_145 dX10_typeOfNumbers_165 rfl rfl (fun _ => ⟨rfl, rfl⟩) (jmix_me rfl hc) ?_
      obtain ⟨_, h⟩ := Prod.mk.inj (Option.some.inj h)
      subst h
      exact j_vret (pc := 168) hX hE dX10_typeOfNumbers_168 (Nat.le_refl 0) (Nat.le_refl 0) ⟨rfl, rfl, rfl⟩
    · replace h := ite_f z h
      refine j_goto (pc := 125) (tgt := 135) hX dX10_typeOfNumbers_125 (by decide) ?_
      refine j_sub (lv' := [(0, .ref 30), (2, .int v2), (4, .int v4)]) ⟨rfl, rfl, rfl, trivial⟩ ?_
      exact tj_m_typeOfNumbers_P135 hX hdp hE _ _ _ h
set_option maxHeartbeats 4000000 in
set_option maxRecDepth 100000 in
theorem tj_m_typeOfNumbers_P16 {X : jX} {d : Nat} {r : jS} {cE : jS} (hX : jOk X RX10 cX10_typeOfNumbers 5 d) (hdp : 1 ≤ d) (hE : jEnd X none 0 0 (fun r0 n0 h0 => r0 = none ∧ n0 = jN ∧ h0 = jE (jmix r cE))) : ∀ (v1 : Int32) (v2 : Int32) (v3 : Int32) (s0 : Int32) (c : jS), m_typeOfNumbers_P16 v1 v2 v3 s0 c = some ((), cE) → J X 0 0 jN (jE (jmix r c)) [(0, .ref 30), (1, .int v1), (2, .int v2), (3, .int v3)] [.int s0] 16 := by
  intro v1 v2 v3 s0 c h
  unfold m_typeOfNumbers_P16 at h
  refine j_istore (pc := 16) hX dX10_typeOfNumbers_16 (by decide) (by decide) ?_
  refine j_iload_n (pc := 18) hX dX10_typeOfNumbers_18 rfl rfl ?_
  refine j_if_ne (pc := 19) (tgt := 35) hX dX10_typeOfNumbers_19 (by decide) (fun z => ?_) (fun z => ?_)
  · replace h := ite_f z h
    refine j_iload_n (pc := 35) hX dX10_typeOfNumbers_35 rfl rfl ?_
    refine j_iconst (pc := 36) (v := (1 : Int32)) hX dX10_typeOfNumbers_36 (by decide) ?_
    refine j_icmp_ne (pc := 37) (tgt := 74) hX dX10_typeOfNumbers_37 (by decide) (fun z => ?_) (fun z => ?_)
    · replace h := ite_f z h
      refine j_iload (pc := 74) hX dX10_typeOfNumbers_74 rfl ?_
      refine j_if_eq (pc := 76) (tgt := 107) hX dX10_typeOfNumbers_76 (by decide) (fun z => ?_) (fun z => ?_)
      · replace h := ite_t z h
        refine j_sub (lv' := [(0, .ref 30), (1, .int v1), (2, .int v2), (4, .int s0)]) ⟨rfl, rfl, rfl, rfl, trivial⟩ ?_
        exact tj_m_typeOfNumbers_P107 hX hdp hE _ _ _ _ h
      · replace h := ite_f z h
        refine j_iload_n (pc := 79) hX dX10_typeOfNumbers_79 rfl rfl ?_
        refine j_iconst (pc := 80) (v := (2 : Int32)) hX dX10_typeOfNumbers_80 (by decide) ?_
        refine j_icmp_ne (pc := 81) (tgt := 107) hX dX10_typeOfNumbers_81 (by decide) (fun z => ?_) (fun z => ?_)
        · replace h := ite_f z h
          refine j_sub (lv' := [(0, .ref 30), (1, .int v1), (2, .int v2), (4, .int s0)]) ⟨rfl, rfl, rfl, rfl, trivial⟩ ?_
          exact tj_m_typeOfNumbers_P107 hX hdp hE _ _ _ _ h
        · replace h := ite_t z h
          refine j_aload_n (pc := 84) hX dX10_typeOfNumbers_84 rfl rfl ?_
          refine k_getR (pc := 85) (q := 46) hX fl_10_63 dX10_typeOfNumbers_85 rfl rfl ?_
          refine j_iload_n (pc := 88) hX dX10_typeOfNumbers_88 rfl rfl ?_
          refine j_aload_n (pc := 89) hX dX10_typeOfNumbers_89 rfl rfl ?_
          refine k_getI (pc := 90) (x := (c 30 22)) hX fl_10_151 dX10_typeOfNumbers_90 rfl rfl rfl ?_
          obtain ⟨hg, h⟩ := gd_some h
          obtain ⟨c7, hc, h⟩ := lt_some h
          refine k_iast (pc := 93) (c' := jmix r c7) hX dX10_typeOfNumbers_93 rfl hg (jmix_me rfl hc) ?_
          refine j_aload_n (pc := 94) hX dX10_typeOfNumbers_94 rfl rfl ?_
          refine j_aload_n (pc := 95) hX dX10_typeOfNumbers_95 rfl rfl ?_
          refine j_iload_n (pc := 96) hX dX10_typeOfNumbers_96 rfl rfl ?_
          refine j_iconst (pc := 97) (v := (2 : Int32)) hX dX10_typeOfNumbers_97 (by decide) ?_
          obtain ⟨r8, h1, h⟩ := ob_some h
          refine k_callVI (pc := 98) (st := [.ref 30]) hX ln_10_126 dX10_typeOfNumbers_98 (t_m_part (d := 0) (Nat.le_refl _) h1) rfl rfl rfl (by omega) (Nat.le_of_ble_eq_true rfl) ?_
          obtain ⟨_u, c9, h1, h⟩ := bd_some h
          refine k_callVV (pc := 101) (st := []) hX ln_10_154 dX10_typeOfNumbers_101 (t_m_push (d := 0) (Nat.le_refl _) h1) rfl rfl rfl (by omega) (Nat.le_of_ble_eq_true rfl) ?_
          refine j_goto (pc := 104) (tgt := 168) hX dX10_typeOfNumbers_104 (by decide) ?_
          obtain ⟨_, h⟩ := Prod.mk.inj (Option.some.inj h)
          subst h
          exact j_vret (pc := 168) hX hE dX10_typeOfNumbers_168 (Nat.le_refl 0) (Nat.le_refl 0) ⟨rfl, rfl, rfl⟩
    · replace h := ite_t z h
      refine j_aload_n (pc := 40) hX dX10_typeOfNumbers_40 rfl rfl ?_
      refine k_getI (pc := 41) (x := (c 30 22)) hX fl_10_151 dX10_typeOfNumbers_41 rfl rfl rfl ?_
      refine j_if_eq (pc := 44) (tgt := 61) hX dX10_typeOfNumbers_44 (by decide) (fun z => ?_) (fun z => ?_)
      · replace h := ite_t z h
        refine j_aload_n (pc := 61) hX dX10_typeOfNumbers_61 rfl rfl ?_
        refine j_aload_n (pc := 62) hX dX10_typeOfNumbers_62 rfl rfl ?_
        refine j_iload_n (pc := 63) hX dX10_typeOfNumbers_63 rfl rfl ?_
        refine j_iconst (pc := 64) (v := (1 : Int32)) hX dX10_typeOfNumbers_64 (by decide) ?_
        obtain ⟨r10, h1, h⟩ := ob_some h
        refine k_callVI (pc := 65) (st := [.ref 30]) hX ln_10_126 dX10_typeOfNumbers_65 (t_m_part (d := 0) (Nat.le_refl _) h1) rfl rfl rfl (by omega) (Nat.le_of_ble_eq_true rfl) ?_
        obtain ⟨_u, c11, h1, h⟩ := bd_some h
        refine k_callVV (pc := 68) (st := []) hX ln_10_154 dX10_typeOfNumbers_68 (t_m_push (d := 0) (Nat.le_refl _) h1) rfl rfl rfl (by omega) (Nat.le_of_ble_eq_true rfl) ?_
        refine j_goto (pc := 71) (tgt := 168) hX dX10_typeOfNumbers_71 (by decide) ?_
        obtain ⟨_, h⟩ := Prod.mk.inj (Option.some.inj h)
        subst h
        exact j_vret (pc := 168) hX hE dX10_typeOfNumbers_168 (Nat.le_refl 0) (Nat.le_refl 0) ⟨rfl, rfl, rfl⟩
      · replace h := ite_f z h
        refine j_aload_n (pc := 47) hX dX10_typeOfNumbers_47 rfl rfl ?_
        refine j_iconst (pc := 48) (v := (3 : Int32)) hX dX10_typeOfNumbers_48 (by decide) ?_
        refine j_aload_n (pc := 49) hX dX10_typeOfNumbers_49 rfl rfl ?_
        refine j_iload_n (pc := 50) hX dX10_typeOfNumbers_50 rfl rfl ?_
        refine j_iconst (pc := 51) (v := (0 : Int32)) hX dX10_typeOfNumbers_51 (by decide) ?_
        obtain ⟨r12, h1, h⟩ := ob_some h
        refine k_callVI (pc := 52) (st := [.int (3 : Int32), .ref 30]) hX ln_10_126 dX10_typeOfNumbers_52 (t_m_part (d := 0) (Nat.le_refl _) h1) rfl rfl rfl (by omega) (Nat.le_of_ble_eq_true rfl) ?_
        obtain ⟨_u, c13, h1, h⟩ := bd_some h
        refine k_callVV (pc := 55) (st := []) hX ln_10_158 dX10_typeOfNumbers_55 (t_m_faults (d := 0) (Nat.le_refl _) h1) rfl rfl rfl (by omega) (Nat.le_of_ble_eq_true rfl) ?_
        refine j_goto (pc := 58) (tgt := 168) hX dX10_typeOfNumbers_58 (by decide) ?_
        obtain ⟨_, h⟩ := Prod.mk.inj (Option.some.inj h)
        subst h
        exact j_vret (pc := 168) hX hE dX10_typeOfNumbers_168 (Nat.le_refl 0) (Nat.le_refl 0) ⟨rfl, rfl, rfl⟩
  · replace h := ite_t z h
    refine j_aload_n (pc := 22) hX dX10_typeOfNumbers_22 rfl rfl ?_
    refine j_aload_n (pc := 23) hX dX10_typeOfNumbers_23 rfl rfl ?_
    refine j_iload_n (pc := 24) hX dX10_typeOfNumbers_24 rfl rfl ?_
    refine j_iconst (pc := 25) (v := (0 : Int32)) hX dX10_typeOfNumbers_25 (by decide) ?_
    obtain ⟨r14, h1, h⟩ := ob_some h
    refine k_callVI (pc := 26) (st := [.ref 30]) hX ln_10_126 dX10_typeOfNumbers_26 (t_m_part (d := 0) (Nat.le_refl _) h1) rfl rfl rfl (by omega) (Nat.le_of_ble_eq_true rfl) ?_
    obtain ⟨_u, c15, h1, h⟩ := bd_some h
    refine k_callVV (pc := 29) (st := []) hX ln_10_154 dX10_typeOfNumbers_29 (t_m_push (d := 0) (Nat.le_refl _) h1) rfl rfl rfl (by omega) (Nat.le_of_ble_eq_true rfl) ?_
    refine j_goto (pc := 32) (tgt := 168) hX dX10_typeOfNumbers_32 (by decide) ?_
    obtain ⟨_, h⟩ := Prod.mk.inj (Option.some.inj h)
    subst h
    exact j_vret (pc := 168) hX hE dX10_typeOfNumbers_168 (Nat.le_refl 0) (Nat.le_refl 0) ⟨rfl, rfl, rfl⟩
set_option maxHeartbeats 4000000 in
set_option maxRecDepth 100000 in
theorem t_m_typeOfNumbers {l : Launch} {D : va_G} {G : Nat → ClassId} {d : Nat} (hdp : 1 ≤ d) {c r : jS} {a1 : Int32} {a2 : Int32} {a3 : Int32} {cE : jS} (h : m_typeOfNumbers c a1 a2 a3 = some ((), cE)) : jC l D G d M_m_typeOfNumbers [.ref 30, .int a1, .int a2, .int a3] (jmix r c) none (jmix r cE) := by
  refine jM_of rfl (Nat.le_of_ble_eq_true rfl) ?_
  intro X hl hD hG _ _ hX hE _
  subst hl hD hG
  unfold m_typeOfNumbers at h
  show J X 0 0 jN (jE (jmix r c)) [(0, .ref 30), (1, .int a1), (2, .int a2), (3, .int a3)] [] 0
  refine j_aload_n (pc := 0) hX dX10_typeOfNumbers_0 rfl rfl ?_
  refine k_getR (pc := 1) (q := 35) hX fl_10_30 dX10_typeOfNumbers_1 rfl rfl ?_
  refine j_iload_n (pc := 4) hX dX10_typeOfNumbers_4 rfl rfl ?_
  obtain ⟨hg, h⟩ := gd_some h
  refine k_iald (pc := 5) (x := (c 35 (a2).toNatClampNeg)) hX dX10_typeOfNumbers_5 rfl hg rfl ?_
  refine j_bipush (pc := 6) (v := (6 : Int32)) hX dX10_typeOfNumbers_6 (by decide) ?_
  refine j_icmp_ne (pc := 8) (tgt := 15) hX dX10_typeOfNumbers_8 (by decide) (fun z => ?_) (fun z => ?_)
  · replace h := ite_f z h
    refine j_iconst (pc := 15) (v := (0 : Int32)) hX dX10_typeOfNumbers_15 (by decide) ?_
    refine j_sub (lv' := [(0, .ref 30), (1, .int a1), (2, .int a2), (3, .int a3)]) ⟨rfl, rfl, rfl, rfl, trivial⟩ ?_
    exact tj_m_typeOfNumbers_P16 hX hdp hE _ _ _ _ _ h
  · replace h := ite_t z h
    refine j_iconst (pc := 11) (v := (1 : Int32)) hX dX10_typeOfNumbers_11 (by decide) ?_
    refine j_goto (pc := 12) (tgt := 16) hX dX10_typeOfNumbers_12 (by decide) ?_
    refine j_sub (lv' := [(0, .ref 30), (1, .int a1), (2, .int a2), (3, .int a3)]) ⟨rfl, rfl, rfl, rfl, trivial⟩ ?_
    exact tj_m_typeOfNumbers_P16 hX hdp hE _ _ _ _ _ h

set_option maxHeartbeats 4000000 in
set_option maxRecDepth 100000 in
theorem t_m_typeOfCall {l : Launch} {D : va_G} {G : Nat → ClassId} {d : Nat} (hdp : 1 ≤ d) {c r : jS} {a1 : Int32} {a2 : Int32} {a3 : Int32} {cE : jS} (h : m_typeOfCall c a1 a2 a3 = some ((), cE)) : jC l D G d M_m_typeOfCall [.ref 30, .int a1, .int a2, .int a3] (jmix r c) none (jmix r cE) := by
  refine jM_of rfl (Nat.le_of_ble_eq_true rfl) ?_
  intro X hl hD hG _ _ hX hE _
  subst hl hD hG
  unfold m_typeOfCall at h
  show J X 0 0 jN (jE (jmix r c)) [(0, .ref 30), (1, .int a1), (2, .int a2), (3, .int a3)] [] 0
  refine j_iload_n (pc := 0) hX dX10_typeOfCall_0 rfl rfl ?_
  refine j_if_ne (pc := 1) (tgt := 17) hX dX10_typeOfCall_1 (by decide) (fun z => ?_) (fun z => ?_)
  · replace h := ite_f z h
    refine j_iload_n (pc := 17) hX dX10_typeOfCall_17 rfl rfl ?_
    refine j_iconst (pc := 18) (v := (1 : Int32)) hX dX10_typeOfCall_18 (by decide) ?_
    refine j_icmp_ne (pc := 19) (tgt := 66) hX dX10_typeOfCall_19 (by decide) (fun z => ?_) (fun z => ?_)
    · replace h := ite_f z h
      refine j_aload_n (pc := 66) hX dX10_typeOfCall_66 rfl rfl ?_
      refine k_getI (pc := 67) (x := (c 30 22)) hX fl_10_151 dX10_typeOfCall_67 rfl rfl rfl ?_
      refine j_aload_n (pc := 70) hX dX10_typeOfCall_70 rfl rfl ?_
      refine k_getR (pc := 71) (q := 31) hX fl_10_17 dX10_typeOfCall_71 rfl rfl ?_
      refine j_aload_n (pc := 74) hX dX10_typeOfCall_74 rfl rfl ?_
      refine k_getR (pc := 75) (q := 45) hX fl_10_60 dX10_typeOfCall_75 rfl rfl ?_
      refine j_iload_n (pc := 78) hX dX10_typeOfCall_78 rfl rfl ?_
      obtain ⟨hg, h⟩ := gd_some h
      refine k_iald (pc := 79) (x := (c 45 (a1).toNatClampNeg)) hX dX10_typeOfCall_79 rfl hg rfl ?_
      obtain ⟨hg, h⟩ := gd_some h
      refine k_iald (pc := 80) (x := (c 31 ((c 45 (a1).toNatClampNeg)).toNatClampNeg)) hX dX10_typeOfCall_80 rfl hg rfl ?_
      refine j_icmp_eq (pc := 81) (tgt := 98) hX dX10_typeOfCall_81 (by decide) (fun z => ?_) (fun z => ?_)
      · replace h := ite_t z h
        refine j_aload_n (pc := 98) hX dX10_typeOfCall_98 rfl rfl ?_
        refine j_aload_n (pc := 99) hX dX10_typeOfCall_99 rfl rfl ?_
        refine k_getR (pc := 100) (q := 32) hX fl_10_21 dX10_typeOfCall_100 rfl rfl ?_
        refine j_aload_n (pc := 103) hX dX10_typeOfCall_103 rfl rfl ?_
        refine k_getR (pc := 104) (q := 45) hX fl_10_60 dX10_typeOfCall_104 rfl rfl ?_
        refine j_iload_n (pc := 107) hX dX10_typeOfCall_107 rfl rfl ?_
        obtain ⟨hg, h⟩ := gd_some h
        refine k_iald (pc := 108) (x := (c 45 (a1).toNatClampNeg)) hX dX10_typeOfCall_108 rfl hg rfl ?_
        obtain ⟨hg, h⟩ := gd_some h
        refine k_iald (pc := 109) (x := (c 32 ((c 45 (a1).toNatClampNeg)).toNatClampNeg)) hX dX10_typeOfCall_109 rfl hg rfl ?_
        obtain ⟨c1, hc, h⟩ := lt_some h
        refine k_putI (pc := 110) (c' := jmix r c1) hX pfl_10_151 dX10_typeOfCall_110 rfl rfl (fun _ => ⟨rfl, rfl⟩) (jmix_me rfl hc) ?_
        refine j_aload_n (pc := 113) hX dX10_typeOfCall_113 rfl rfl ?_
        refine j_dup (pc := 114) hX dX10_typeOfCall_114 rfl ?_
        refine k_getI (pc := 115) (x := (c1 30 14)) hX fl_10_145 dX10_typeOfCall_115 rfl rfl rfl ?_
        refine j_iconst (pc := 118) (v := (1 : Int32)) hX dX10_typeOfCall_118 (by decide) ?_
        refine j_isub (pc := 119) hX dX10_typeOfCall_119 ?_
        obtain ⟨c2, hc, h⟩ := lt_some h
        refine k_putI (pc := 120) (c' := jmix r c2) hX pfl_10_145 dX10_typeOfCall_120 rfl rfl (fun _ => ⟨rfl, rfl⟩) (jmix_me rfl hc) ?_
        obtain ⟨_, h⟩ := Prod.mk.inj (Option.some.inj h)
        subst h
        exact j_vret (pc := 123) hX hE dX10_typeOfCall_123 (Nat.le_refl 0) (Nat.le_refl 0) ⟨rfl, rfl, rfl⟩
      · replace h := ite_f z h
        refine j_aload_n (pc := 84) hX dX10_typeOfCall_84 rfl rfl ?_
        refine j_iconst (pc := 85) (v := (3 : Int32)) hX dX10_typeOfCall_85 (by decide) ?_
        refine j_aload_n (pc := 86) hX dX10_typeOfCall_86 rfl rfl ?_
        refine j_iload_n (pc := 87) hX dX10_typeOfCall_87 rfl rfl ?_
        refine j_iconst (pc := 88) (v := (1 : Int32)) hX dX10_typeOfCall_88 (by decide) ?_
        obtain ⟨r3, h1, h⟩ := ob_some h
        refine k_callVI (pc := 89) (st := [.int (3 : Int32), .ref 30]) hX ln_10_126 dX10_typeOfCall_89 (t_m_part (d := 0) (Nat.le_refl _) h1) rfl rfl rfl (by omega) (Nat.le_of_ble_eq_true rfl) ?_
        obtain ⟨_u, c4, h1, h⟩ := bd_some h
        refine k_callVV (pc := 92) (st := []) hX ln_10_158 dX10_typeOfCall_92 (t_m_faults (d := 0) (Nat.le_refl _) h1) rfl rfl rfl (by omega) (Nat.le_of_ble_eq_true rfl) ?_
        refine j_goto (pc := 95) (tgt := 123) hX dX10_typeOfCall_95 (by decide) ?_
        obtain ⟨_, h⟩ := Prod.mk.inj (Option.some.inj h)
        subst h
        exact j_vret (pc := 123) hX hE dX10_typeOfCall_123 (Nat.le_refl 0) (Nat.le_refl 0) ⟨rfl, rfl, rfl⟩
    · replace h := ite_t z h
      refine j_aload_n (pc := 22) hX dX10_typeOfCall_22 rfl rfl ?_
      refine k_getR (pc := 23) (q := 45) hX fl_10_60 dX10_typeOfCall_23 rfl rfl ?_
      refine j_iload_n (pc := 26) hX dX10_typeOfCall_26 rfl rfl ?_
      refine j_aload_n (pc := 27) hX dX10_typeOfCall_27 rfl rfl ?_
      refine k_getI (pc := 28) (x := (c 30 22)) hX fl_10_151 dX10_typeOfCall_28 rfl rfl rfl ?_
      obtain ⟨hg, h⟩ := gd_some h
      obtain ⟨c5, hc, h⟩ := lt_some h
      refine k_iast (pc := 31) (c' := jmix r c5) hX dX10_typeOfCall_31 rfl hg (jmix_me rfl hc) ?_
      refine j_aload_n (pc := 32) hX dX10_typeOfCall_32 rfl rfl ?_
      refine k_getI (pc := 33) (x := (c5 30 22)) hX fl_10_151 dX10_typeOfCall_33 rfl rfl rfl ?_
      refine j_if_ne (pc := 36) (tgt := 53) hX dX10_typeOfCall_36 (by decide) (fun z => ?_) (fun z => ?_)
      · replace h := ite_f z h
        refine j_aload_n (pc := 53) hX dX10_typeOfCall_53 rfl rfl ?_
        refine j_aload_n (pc := 54) hX dX10_typeOfCall_54 rfl rfl ?_
        refine j_iload_n (pc := 55) hX dX10_typeOfCall_55 rfl rfl ?_
        refine j_iconst (pc := 56) (v := (1 : Int32)) hX dX10_typeOfCall_56 (by decide) ?_
        obtain ⟨r6, h1, h⟩ := ob_some h
        refine k_callVI (pc := 57) (st := [.ref 30]) hX ln_10_126 dX10_typeOfCall_57 (t_m_part (d := 0) (Nat.le_refl _) h1) rfl rfl rfl (by omega) (Nat.le_of_ble_eq_true rfl) ?_
        obtain ⟨_u, c7, h1, h⟩ := bd_some h
        refine k_callVV (pc := 60) (st := []) hX ln_10_154 dX10_typeOfCall_60 (t_m_push (d := 0) (Nat.le_refl _) h1) rfl rfl rfl (by omega) (Nat.le_of_ble_eq_true rfl) ?_
        refine j_goto (pc := 63) (tgt := 123) hX dX10_typeOfCall_63 (by decide) ?_
        obtain ⟨_, h⟩ := Prod.mk.inj (Option.some.inj h)
        subst h
        exact j_vret (pc := 123) hX hE dX10_typeOfCall_123 (Nat.le_refl 0) (Nat.le_refl 0) ⟨rfl, rfl, rfl⟩
      · replace h := ite_t z h
        refine j_aload_n (pc := 39) hX dX10_typeOfCall_39 rfl rfl ?_
        refine j_iconst (pc := 40) (v := (2 : Int32)) hX dX10_typeOfCall_40 (by decide) ?_
        refine j_aload_n (pc := 41) hX dX10_typeOfCall_41 rfl rfl ?_
        refine j_iload_n (pc := 42) hX dX10_typeOfCall_42 rfl rfl ?_
        refine j_iconst (pc := 43) (v := (0 : Int32)) hX dX10_typeOfCall_43 (by decide) ?_
        obtain ⟨r8, h1, h⟩ := ob_some h
        refine k_callVI (pc := 44) (st := [.int (2 : Int32), .ref 30]) hX ln_10_126 dX10_typeOfCall_44 (t_m_part (d := 0) (Nat.le_refl _) h1) rfl rfl rfl (by omega) (Nat.le_of_ble_eq_true rfl) ?_
        obtain ⟨_u, c9, h1, h⟩ := bd_some h
        refine k_callVV (pc := 47) (st := []) hX ln_10_158 dX10_typeOfCall_47 (t_m_faults (d := 0) (Nat.le_refl _) h1) rfl rfl rfl (by omega) (Nat.le_of_ble_eq_true rfl) ?_
        refine j_goto (pc := 50) (tgt := 123) hX dX10_typeOfCall_50 (by decide) ?_
        obtain ⟨_, h⟩ := Prod.mk.inj (Option.some.inj h)
        subst h
        exact j_vret (pc := 123) hX hE dX10_typeOfCall_123 (Nat.le_refl 0) (Nat.le_refl 0) ⟨rfl, rfl, rfl⟩
  · replace h := ite_t z h
    refine j_aload_n (pc := 4) hX dX10_typeOfCall_4 rfl rfl ?_
    refine j_aload_n (pc := 5) hX dX10_typeOfCall_5 rfl rfl ?_
    refine j_iload_n (pc := 6) hX dX10_typeOfCall_6 rfl rfl ?_
    refine j_iconst (pc := 7) (v := (0 : Int32)) hX dX10_typeOfCall_7 (by decide) ?_
    obtain ⟨r10, h1, h⟩ := ob_some h
    refine k_callVI (pc := 8) (st := [.ref 30]) hX ln_10_126 dX10_typeOfCall_8 (t_m_part (d := 0) (Nat.le_refl _) h1) rfl rfl rfl (by omega) (Nat.le_of_ble_eq_true rfl) ?_
    obtain ⟨_u, c11, h1, h⟩ := bd_some h
    refine k_callVV (pc := 11) (st := []) hX ln_10_154 dX10_typeOfCall_11 (t_m_push (d := 0) (Nat.le_refl _) h1) rfl rfl rfl (by omega) (Nat.le_of_ble_eq_true rfl) ?_
    refine j_goto (pc := 14) (tgt := 123) hX dX10_typeOfCall_14 (by decide) ?_
    obtain ⟨_, h⟩ := Prod.mk.inj (Option.some.inj h)
    subst h
    exact j_vret (pc := 123) hX hE dX10_typeOfCall_123 (Nat.le_refl 0) (Nat.le_refl 0) ⟨rfl, rfl, rfl⟩

set_option maxHeartbeats 4000000 in
set_option maxRecDepth 100000 in
theorem tj_m_typeOfBinder_P83 {X : jX} {d : Nat} {r : jS} {cE : jS} (hX : jOk X RX10 cX10_typeOfBinder 6 d) (hdp : 1 ≤ d) (hE : jEnd X none 0 0 (fun r0 n0 h0 => r0 = none ∧ n0 = jN ∧ h0 = jE (jmix r cE))) : ∀ (v2 : Int32) (v4 : Int32) (s1 : Int32) (s2 : Int32) (s3 : Int32) (c : jS), m_typeOfBinder_P83 v2 v4 s1 s2 s3 c = some ((), cE) → J X 0 0 jN (jE (jmix r c)) [(0, .ref 30), (2, .int v2), (4, .int v4)] [.int s3, .int s2, .int s1, .ref 30] 83 := by
  intro v2 v4 s1 s2 s3 c h
  unfold m_typeOfBinder_P83 at h
  obtain ⟨_u, c8, h1, h⟩ := bd_some h
  refine k_callVV (pc := 83) (st := []) hX ln_10_162 dX10_typeOfBinder_83 (t_m_binds (d := 0) (Nat.le_refl _) h1) rfl rfl rfl (by omega) (Nat.le_of_ble_eq_true rfl) ?_
  refine j_aload_n (pc := 86) hX dX10_typeOfBinder_86 rfl rfl ?_
  refine j_aload_n (pc := 87) hX dX10_typeOfBinder_87 rfl rfl ?_
  refine j_iload_n (pc := 88) hX dX10_typeOfBinder_88 rfl rfl ?_
  refine j_iload (pc := 89) hX dX10_typeOfBinder_89 rfl ?_
  refine j_if_eq (pc := 91) (tgt := 98) hX dX10_typeOfBinder_91 (by decide) (fun z => ?_) (fun z => ?_)
  · replace h := ite_t z h
    refine j_iconst (pc := 98) (v := (0 : Int32)) hX dX10_typeOfBinder_98 (by decide) ?_
    obtain ⟨r9, h1, h⟩ := ob_some h
    refine k_callVI (pc := 99) (st := [.ref 30]) hX ln_10_126 dX10_typeOfBinder_99 (t_m_part (d := 0) (Nat.le_refl _) h1) rfl rfl rfl (by omega) (Nat.le_of_ble_eq_true rfl) ?_
    obtain ⟨_u, c10, h1, h⟩ := bd_some h
    refine k_callVV (pc := 102) (st := []) hX ln_10_154 dX10_typeOfBinder_102 (t_m_push (d := 0) (Nat.le_refl _) h1) rfl rfl rfl (by omega) (Nat.le_of_ble_eq_true rfl) ?_
    refine j_goto (pc := 105) (tgt := 161) hX dX10_typeOfBinder_105 (by decide) ?_
    obtain ⟨_, h⟩ := Prod.mk.inj (Option.some.inj h)
    subst h
    exact j_vret (pc := 161) hX hE dX10_typeOfBinder_161 (Nat.le_refl 0) (Nat.le_refl 0) ⟨rfl, rfl, rfl⟩
  · replace h := ite_f z h
    refine j_iconst (pc := 94) (v := (1 : Int32)) hX dX10_typeOfBinder_94 (by decide) ?_
    refine j_goto (pc := 95) (tgt := 99) hX dX10_typeOfBinder_95 (by decide) ?_
    obtain ⟨r11, h1, h⟩ := ob_some h
    refine k_callVI (pc := 99) (st := [.ref 30]) hX ln_10_126 dX10_typeOfBinder_99 (t_m_part (d := 0) (Nat.le_refl _) h1) rfl rfl rfl (by omega) (Nat.le_of_ble_eq_true rfl) ?_
    obtain ⟨_u, c12, h1, h⟩ := bd_some h
    refine k_callVV (pc := 102) (st := []) hX ln_10_154 dX10_typeOfBinder_102 (t_m_push (d := 0) (Nat.le_refl _) h1) rfl rfl rfl (by omega) (Nat.le_of_ble_eq_true rfl) ?_
    refine j_goto (pc := 105) (tgt := 161) hX dX10_typeOfBinder_105 (by decide) ?_
    obtain ⟨_, h⟩ := Prod.mk.inj (Option.some.inj h)
    subst h
    exact j_vret (pc := 161) hX hE dX10_typeOfBinder_161 (Nat.le_refl 0) (Nat.le_refl 0) ⟨rfl, rfl, rfl⟩
set_option maxHeartbeats 4000000 in
set_option maxRecDepth 100000 in
theorem tj_m_typeOfBinder_P58 {X : jX} {d : Nat} {r : jS} {cE : jS} (hX : jOk X RX10 cX10_typeOfBinder 6 d) (hdp : 1 ≤ d) (hE : jEnd X none 0 0 (fun r0 n0 h0 => r0 = none ∧ n0 = jN ∧ h0 = jE (jmix r cE))) : ∀ (v1 : Int32) (v2 : Int32) (v4 : Int32) (v5 : Int32) (s0 : Int32) (s1 : Int32) (c : jS), m_typeOfBinder_P58 v1 v2 v4 v5 s0 s1 c = some ((), cE) → J X 0 0 jN (jE (jmix r c)) [(0, .ref 30), (1, .int v1), (2, .int v2), (4, .int v4), (5, .int v5)] [.int s1, .int s0] 58 := by
  intro v1 v2 v4 v5 s0 s1 c h
  unfold m_typeOfBinder_P58 at h
  refine j_icmp_ne (pc := 58) (tgt := 108) hX dX10_typeOfBinder_58 (by decide) (fun z => ?_) (fun z => ?_)
  · replace h := ite_f z h
    refine j_aload_n (pc := 108) hX dX10_typeOfBinder_108 rfl rfl ?_
    refine k_getR (pc := 109) (q := 50) hX fl_10_75 dX10_typeOfBinder_109 rfl rfl ?_
    refine j_iload (pc := 112) hX dX10_typeOfBinder_112 rfl ?_
    refine j_aload_n (pc := 114) hX dX10_typeOfBinder_114 rfl rfl ?_
    refine k_getR (pc := 115) (q := 47) hX fl_10_66 dX10_typeOfBinder_115 rfl rfl ?_
    refine j_iload_n (pc := 118) hX dX10_typeOfBinder_118 rfl rfl ?_
    obtain ⟨hg, h⟩ := gd_some h
    refine k_iald (pc := 119) (x := (c 47 (v1).toNatClampNeg)) hX dX10_typeOfBinder_119 rfl hg rfl ?_
    obtain ⟨hg, h⟩ := gd_some h
    obtain ⟨c1, hc, h⟩ := lt_some h
    refine k_iast (pc := 120) (c' := jmix r c1) hX dX10_typeOfBinder_120 rfl hg (jmix_me rfl hc) ?_
    refine j_aload_n (pc := 121) hX dX10_typeOfBinder_121 rfl rfl ?_
    refine j_iload (pc := 122) hX dX10_typeOfBinder_122 rfl ?_
    refine j_if_eq (pc := 124) (tgt := 134) hX dX10_typeOfBinder_124 (by decide) (fun z => ?_) (fun z => ?_)
    · replace h := ite_t z h
      refine j_aload_n (pc := 134) hX dX10_typeOfBinder_134 rfl rfl ?_
      refine j_aload_n (pc := 135) hX dX10_typeOfBinder_135 rfl rfl ?_
      refine k_getR (pc := 136) (q := 38) hX fl_10_39 dX10_typeOfBinder_136 rfl rfl ?_
      refine j_iload_n (pc := 139) hX dX10_typeOfBinder_139 rfl rfl ?_
      obtain ⟨hg, h⟩ := gd_some h
      refine k_iald (pc := 140) (x := (c1 38 (v2).toNatClampNeg)) hX dX10_typeOfBinder_140 rfl hg rfl ?_
      refine j_aload_n (pc := 141) hX dX10_typeOfBinder_141 rfl rfl ?_
      refine k_getI (pc := 142) (x := (c1 30 22)) hX fl_10_151 dX10_typeOfBinder_142 rfl rfl rfl ?_
      obtain ⟨r2, c3, h1, h⟩ := bd_some h
      refine k_callVI (pc := 145) (st := [.ref 30]) hX ln_10_112 dX10_typeOfBinder_145 (t_m_arrowOf (d := 0) (Nat.le_refl _) h1) rfl rfl rfl (by omega) (Nat.le_of_ble_eq_true rfl) ?_
      obtain ⟨c4, hc, h⟩ := lt_some h
      refine k_putI (pc := 148) (c' := jmix r c4) hX pfl_10_151 dX10_typeOfBinder_148 rfl rfl (fun _ => ⟨rfl, rfl⟩) (jmix_me rfl hc) ?_
      refine j_aload_n (pc := 151) hX dX10_typeOfBinder_151 rfl rfl ?_
      refine j_dup (pc := 152) hX dX10_typeOfBinder_152 rfl ?_
      refine k_getI (pc := 153) (x := (c4 30 14)) hX fl_10_145 dX10_typeOfBinder_153 rfl rfl rfl ?_
      refine j_iconst (pc := 156) (v := (1 : Int32)) hX dX10_typeOfBinder_156 (by decide) ?_
      refine j_isub (pc := 157) hX dX10_typeOfBinder_157 ?_
      obtain ⟨c5, hc, h⟩ := lt_some h
      refine k_putI (pc := 158) (c' := jmix r c5) hX pfl_10_145 dX10_typeOfBinder_158 rfl rfl (fun _ => ⟨rfl, rfl⟩) (jmix_me rfl hc) ?_
      obtain ⟨_, h⟩ := Prod.mk.inj (Option.some.inj h)
      subst h
      exact j_vret (pc := 161) hX hE dX10_typeOfBinder_161 (Nat.le_refl 0) (Nat.le_refl 0) ⟨rfl, rfl, rfl⟩
    · replace h := ite_f z h
      refine j_aload_n (pc := 127) hX dX10_typeOfBinder_127 rfl rfl ?_
      refine k_getI (pc := 128) (x := (c1 30 22)) hX fl_10_151 dX10_typeOfBinder_128 rfl rfl rfl ?_
      refine j_goto (pc := 131) (tgt := 148) hX dX10_typeOfBinder_131 (by decide) ?_
      obtain ⟨c6, hc, h⟩ := lt_some h
      refine k_putI (pc := 148) (c' := jmix r c6) hX pfl_10_151 dX10_typeOfBinder_148 rfl rfl (fun _ => ⟨rfl, rfl⟩) (jmix_me rfl hc) ?_
      refine j_aload_n (pc := 151) hX dX10_typeOfBinder_151 rfl rfl ?_
      refine j_dup (pc := 152) hX dX10_typeOfBinder_152 rfl ?_
      refine k_getI (pc := 153) (x := (c6 30 14)) hX fl_10_145 dX10_typeOfBinder_153 rfl rfl rfl ?_
      refine j_iconst (pc := 156) (v := (1 : Int32)) hX dX10_typeOfBinder_156 (by decide) ?_
      refine j_isub (pc := 157) hX dX10_typeOfBinder_157 ?_
      obtain ⟨c7, hc, h⟩ := lt_some h
      refine k_putI (pc := 158) (c' := jmix r c7) hX pfl_10_145 dX10_typeOfBinder_158 rfl rfl (fun _ => ⟨rfl, rfl⟩) (jmix_me rfl hc) ?_
      obtain ⟨_, h⟩ := Prod.mk.inj (Option.some.inj h)
      subst h
      exact j_vret (pc := 161) hX hE dX10_typeOfBinder_161 (Nat.le_refl 0) (Nat.le_refl 0) ⟨rfl, rfl, rfl⟩
  · replace h := ite_t z h
    refine j_aload_n (pc := 61) hX dX10_typeOfBinder_61 rfl rfl ?_
    refine j_iload_n (pc := 62) hX dX10_typeOfBinder_62 rfl rfl ?_
    refine j_iload (pc := 63) hX dX10_typeOfBinder_63 rfl ?_
    refine j_iload (pc := 65) hX dX10_typeOfBinder_65 rfl ?_
    refine j_if_eq (pc := 67) (tgt := 77) hX dX10_typeOfBinder_67 (by decide) (fun z => ?_) (fun z => ?_)
    · replace h := ite_t z h
      refine j_aload_n (pc := 77) hX dX10_typeOfBinder_77 rfl rfl ?_
      refine k_getR (pc := 78) (q := 38) hX fl_10_39 dX10_typeOfBinder_78 rfl rfl ?_
      refine j_iload_n (pc := 81) hX dX10_typeOfBinder_81 rfl rfl ?_
      obtain ⟨hg, h⟩ := gd_some h
      refine k_iald (pc := 82) (x := (c 38 (v2).toNatClampNeg)) hX dX10_typeOfBinder_82 rfl hg rfl ?_
      refine j_sub (lv' := [(0, .ref 30), (2, .int v2), (4, .int v4)]) ⟨rfl, rfl, rfl, trivial⟩ ?_
      exact tj_m_typeOfBinder_P83 hX hdp hE _ _ _ _ _ _ h
    · replace h := ite_f z h
      refine j_aload_n (pc := 70) hX dX10_typeOfBinder_70 rfl rfl ?_
      refine k_getI (pc := 71) (x := (c 30 22)) hX fl_10_151 dX10_typeOfBinder_71 rfl rfl rfl ?_
      refine j_goto (pc := 74) (tgt := 83) hX dX10_typeOfBinder_74 (by decide) ?_
      refine j_sub (lv' := [(0, .ref 30), (2, .int v2), (4, .int v4)]) ⟨rfl, rfl, rfl, trivial⟩ ?_
      exact tj_m_typeOfBinder_P83 hX hdp hE _ _ _ _ _ _ h
set_option maxHeartbeats 4000000 in
set_option maxRecDepth 100000 in
theorem tj_m_typeOfBinder_P47 {X : jX} {d : Nat} {r : jS} {cE : jS} (hX : jOk X RX10 cX10_typeOfBinder 6 d) (hdp : 1 ≤ d) (hE : jEnd X none 0 0 (fun r0 n0 h0 => r0 = none ∧ n0 = jN ∧ h0 = jE (jmix r cE))) : ∀ (v1 : Int32) (v2 : Int32) (v3 : Int32) (v4 : Int32) (v5 : Int32) (c : jS), m_typeOfBinder_P47 v1 v2 v3 v4 v5 c = some ((), cE) → J X 0 0 jN (jE (jmix r c)) [(0, .ref 30), (1, .int v1), (2, .int v2), (3, .int v3), (4, .int v4), (5, .int v5)] [] 47 := by
  intro v1 v2 v3 v4 v5 c h
  unfold m_typeOfBinder_P47 at h
  refine j_iload_n (pc := 47) hX dX10_typeOfBinder_47 rfl rfl ?_
  refine j_iload (pc := 48) hX dX10_typeOfBinder_48 rfl ?_
  refine j_if_eq (pc := 50) (tgt := 57) hX dX10_typeOfBinder_50 (by decide) (fun z => ?_) (fun z => ?_)
  · replace h := ite_t z h
    refine j_iconst (pc := 57) (v := (0 : Int32)) hX dX10_typeOfBinder_57 (by decide) ?_
    refine j_sub (lv' := [(0, .ref 30), (1, .int v1), (2, .int v2), (4, .int v4), (5, .int v5)]) ⟨rfl, rfl, rfl, rfl, rfl, trivial⟩ ?_
    exact tj_m_typeOfBinder_P58 hX hdp hE _ _ _ _ _ _ _ h
  · replace h := ite_f z h
    refine j_iconst (pc := 53) (v := (1 : Int32)) hX dX10_typeOfBinder_53 (by decide) ?_
    refine j_goto (pc := 54) (tgt := 58) hX dX10_typeOfBinder_54 (by decide) ?_
    refine j_sub (lv' := [(0, .ref 30), (1, .int v1), (2, .int v2), (4, .int v4), (5, .int v5)]) ⟨rfl, rfl, rfl, rfl, rfl, trivial⟩ ?_
    exact tj_m_typeOfBinder_P58 hX hdp hE _ _ _ _ _ _ _ h
set_option maxHeartbeats 4000000 in
set_option maxRecDepth 100000 in
theorem tj_m_typeOfBinder_P15 {X : jX} {d : Nat} {r : jS} {cE : jS} (hX : jOk X RX10 cX10_typeOfBinder 6 d) (hdp : 1 ≤ d) (hE : jEnd X none 0 0 (fun r0 n0 h0 => r0 = none ∧ n0 = jN ∧ h0 = jE (jmix r cE))) : ∀ (v1 : Int32) (v2 : Int32) (v3 : Int32) (s0 : Int32) (c : jS), m_typeOfBinder_P15 v1 v2 v3 s0 c = some ((), cE) → J X 0 0 jN (jE (jmix r c)) [(0, .ref 30), (1, .int v1), (2, .int v2), (3, .int v3)] [.int s0] 15 := by
  intro v1 v2 v3 s0 c h
  unfold m_typeOfBinder_P15 at h
  refine j_istore (pc := 15) hX dX10_typeOfBinder_15 (by decide) (by decide) ?_
  refine j_aload_n (pc := 17) hX dX10_typeOfBinder_17 rfl rfl ?_
  refine k_getR (pc := 18) (q := 37) hX fl_10_36 dX10_typeOfBinder_18 rfl rfl ?_
  refine j_iload_n (pc := 21) hX dX10_typeOfBinder_21 rfl rfl ?_
  obtain ⟨hg, h⟩ := gd_some h
  refine k_iald (pc := 22) (x := (c 37 (v2).toNatClampNeg)) hX dX10_typeOfBinder_22 rfl hg rfl ?_
  refine j_istore (pc := 23) hX dX10_typeOfBinder_23 (by decide) (by decide) ?_
  refine j_iload (pc := 25) hX dX10_typeOfBinder_25 rfl ?_
  refine j_if_eq (pc := 27) (tgt := 47) hX dX10_typeOfBinder_27 (by decide) (fun z => ?_) (fun z => ?_)
  · replace h := ite_t z h
    refine j_sub (lv' := [(0, .ref 30), (1, .int v1), (2, .int v2), (3, .int v3), (4, .int s0), (5, .int (c 37 (v2).toNatClampNeg))]) ⟨rfl, rfl, rfl, rfl, rfl, rfl, trivial⟩ ?_
    exact tj_m_typeOfBinder_P47 hX hdp hE _ _ _ _ _ _ h
  · replace h := ite_f z h
    refine j_iload_n (pc := 30) hX dX10_typeOfBinder_30 rfl rfl ?_
    refine j_if_ne (pc := 31) (tgt := 47) hX dX10_typeOfBinder_31 (by decide) (fun z => ?_) (fun z => ?_)
    · replace h := ite_f z h
      refine j_sub (lv' := [(0, .ref 30), (1, .int v1), (2, .int v2), (3, .int v3), (4, .int s0), (5, .int (c 37 (v2).toNatClampNeg))]) ⟨rfl, rfl, rfl, rfl, rfl, rfl, trivial⟩ ?_
      exact tj_m_typeOfBinder_P47 hX hdp hE _ _ _ _ _ _ h
    · replace h := ite_t z h
      refine j_aload_n (pc := 34) hX dX10_typeOfBinder_34 rfl rfl ?_
      refine j_aload_n (pc := 35) hX dX10_typeOfBinder_35 rfl rfl ?_
      refine j_iload_n (pc := 36) hX dX10_typeOfBinder_36 rfl rfl ?_
      refine j_iconst (pc := 37) (v := (0 : Int32)) hX dX10_typeOfBinder_37 (by decide) ?_
      obtain ⟨r13, h1, h⟩ := ob_some h
      refine k_callVI (pc := 38) (st := [.ref 30]) hX ln_10_126 dX10_typeOfBinder_38 (t_m_part (d := 0) (Nat.le_refl _) h1) rfl rfl rfl (by omega) (Nat.le_of_ble_eq_true rfl) ?_
      obtain ⟨_u, c14, h1, h⟩ := bd_some h
      refine k_callVV (pc := 41) (st := []) hX ln_10_154 dX10_typeOfBinder_41 (t_m_push (d := 0) (Nat.le_refl _) h1) rfl rfl rfl (by omega) (Nat.le_of_ble_eq_true rfl) ?_
      refine j_goto (pc := 44) (tgt := 161) hX dX10_typeOfBinder_44 (by decide) ?_
      obtain ⟨_, h⟩ := Prod.mk.inj (Option.some.inj h)
      subst h
      exact j_vret (pc := 161) hX hE dX10_typeOfBinder_161 (Nat.le_refl 0) (Nat.le_refl 0) ⟨rfl, rfl, rfl⟩
set_option maxHeartbeats 4000000 in
set_option maxRecDepth 100000 in
theorem t_m_typeOfBinder {l : Launch} {D : va_G} {G : Nat → ClassId} {d : Nat} (hdp : 1 ≤ d) {c r : jS} {a1 : Int32} {a2 : Int32} {a3 : Int32} {cE : jS} (h : m_typeOfBinder c a1 a2 a3 = some ((), cE)) : jC l D G d M_m_typeOfBinder [.ref 30, .int a1, .int a2, .int a3] (jmix r c) none (jmix r cE) := by
  refine jM_of rfl (Nat.le_of_ble_eq_true rfl) ?_
  intro X hl hD hG _ _ hX hE _
  subst hl hD hG
  unfold m_typeOfBinder at h
  show J X 0 0 jN (jE (jmix r c)) [(0, .ref 30), (1, .int a1), (2, .int a2), (3, .int a3)] [] 0
  refine j_aload_n (pc := 0) hX dX10_typeOfBinder_0 rfl rfl ?_
  refine k_getR (pc := 1) (q := 35) hX fl_10_30 dX10_typeOfBinder_1 rfl rfl ?_
  refine j_iload_n (pc := 4) hX dX10_typeOfBinder_4 rfl rfl ?_
  obtain ⟨hg, h⟩ := gd_some h
  refine k_iald (pc := 5) (x := (c 35 (a2).toNatClampNeg)) hX dX10_typeOfBinder_5 rfl hg rfl ?_
  refine j_iconst (pc := 6) (v := (4 : Int32)) hX dX10_typeOfBinder_6 (by decide) ?_
  refine j_icmp_ne (pc := 7) (tgt := 14) hX dX10_typeOfBinder_7 (by decide) (fun z => ?_) (fun z => ?_)
  · replace h := ite_f z h
    refine j_iconst (pc := 14) (v := (0 : Int32)) hX dX10_typeOfBinder_14 (by decide) ?_
    refine j_sub (lv' := [(0, .ref 30), (1, .int a1), (2, .int a2), (3, .int a3)]) ⟨rfl, rfl, rfl, rfl, trivial⟩ ?_
    exact tj_m_typeOfBinder_P15 hX hdp hE _ _ _ _ _ h
  · replace h := ite_t z h
    refine j_iconst (pc := 10) (v := (1 : Int32)) hX dX10_typeOfBinder_10 (by decide) ?_
    refine j_goto (pc := 11) (tgt := 15) hX dX10_typeOfBinder_11 (by decide) ?_
    refine j_sub (lv' := [(0, .ref 30), (1, .int a1), (2, .int a2), (3, .int a3)]) ⟨rfl, rfl, rfl, rfl, trivial⟩ ?_
    exact tj_m_typeOfBinder_P15 hX hdp hE _ _ _ _ _ h

set_option maxHeartbeats 4000000 in
set_option maxRecDepth 100000 in
theorem tj_m_type_P285_67 {X : jX} {d : Nat} {r : jS} {vE : Int32} {cE : jS} (hX : jOk X RX10 cX10_type 7 d) (hdp : 2 ≤ d) (hE : jEnd X (some .int) 0 0 (fun r0 n0 h0 => r0 = (some (.int vE)) ∧ n0 = jN ∧ h0 = jE (jmix r cE))) {k_67 : Nat} (ih_67 : ∀ (v2 : Int32) (c : jS), lpk (fun s : (Int32 × jS) => m_type_S67 s.1 s.2) k_67 (v2, c) = some (vE, cE) → J X 0 0 jN (jE (jmix r c)) [(0, .ref 30), (2, .int v2)] [] 67) : ∀ (s1 : Int32) (c : jS), lq (fun s : (Int32 × jS) => m_type_S67 s.1 s.2) k_67 (vE, cE) (m_type_P285_67 s1 c) → J X 0 0 jN (jE (jmix r c)) [(0, .ref 30)] [.int s1, .ref 30] 285 := by
  intro s1 c h
  conv at h => arg 4; unfold m_type_P285_67
  obtain ⟨c7, hc, h⟩ := lq_lt h
  refine k_putI (pc := 285) (c' := jmix r c7) hX pfl_10_13 dX10_type_285 rfl rfl (fun _ => ⟨rfl, rfl⟩) (jmix_me rfl hc) ?_
  refine j_aload_n (pc := 288) hX dX10_type_288 rfl rfl ?_
  refine k_getI (pc := 289) (x := (c7 30 24)) hX fl_10_148 dX10_type_289 rfl rfl rfl ?_
  refine j_if_le (pc := 292) (tgt := 300) hX dX10_type_292 (by decide) (fun z => ?_) (fun z => ?_)
  · replace h := lq_t z h
    refine j_aload_n (pc := 300) hX dX10_type_300 rfl rfl ?_
    refine k_getI (pc := 301) (x := (c7 30 22)) hX fl_10_151 dX10_type_301 rfl rfl rfl ?_
    replace h := lq_r h
    obtain ⟨h, h0⟩ := Prod.mk.inj (Option.some.inj h)
    subst h h0
    exact j_iret (pc := 304) hX hE rfl rfl dX10_type_304 (Nat.le_refl 0) (Nat.le_refl 0) ⟨rfl, rfl, rfl⟩
  · replace h := lq_f z h
    refine j_bipush (pc := 295) (v := (-2 : Int32)) hX dX10_type_295 (by decide) ?_
    refine j_goto (pc := 297) (tgt := 304) hX dX10_type_297 (by decide) ?_
    replace h := lq_r h
    obtain ⟨h, h0⟩ := Prod.mk.inj (Option.some.inj h)
    subst h h0
    exact j_iret (pc := 304) hX hE rfl rfl dX10_type_304 (Nat.le_refl 0) (Nat.le_refl 0) ⟨rfl, rfl, rfl⟩
set_option maxHeartbeats 4000000 in
set_option maxRecDepth 100000 in
theorem tj_m_type_P277_67 {X : jX} {d : Nat} {r : jS} {vE : Int32} {cE : jS} (hX : jOk X RX10 cX10_type 7 d) (hdp : 2 ≤ d) (hE : jEnd X (some .int) 0 0 (fun r0 n0 h0 => r0 = (some (.int vE)) ∧ n0 = jN ∧ h0 = jE (jmix r cE))) {k_67 : Nat} (ih_67 : ∀ (v2 : Int32) (c : jS), lpk (fun s : (Int32 × jS) => m_type_S67 s.1 s.2) k_67 (v2, c) = some (vE, cE) → J X 0 0 jN (jE (jmix r c)) [(0, .ref 30), (2, .int v2)] [] 67) : ∀ (v2 : Int32) (c : jS), lq (fun s : (Int32 × jS) => m_type_S67 s.1 s.2) k_67 (vE, cE) (m_type_P277_67 v2 c) → J X 0 0 jN (jE (jmix r c)) [(0, .ref 30), (2, .int v2)] [.ref 30] 277 := by
  intro v2 c h
  conv at h => arg 4; unfold m_type_P277_67
  refine j_iload_n (pc := 277) hX dX10_type_277 rfl rfl ?_
  refine j_goto (pc := 278) (tgt := 285) hX dX10_type_278 (by decide) ?_
  refine j_sub (lv' := [(0, .ref 30)]) ⟨rfl, trivial⟩ ?_
  exact tj_m_type_P285_67 hX hdp hE ih_67 _ _ h
set_option maxHeartbeats 4000000 in
set_option maxRecDepth 100000 in
theorem tj_m_type_P260_67 {X : jX} {d : Nat} {r : jS} {vE : Int32} {cE : jS} (hX : jOk X RX10 cX10_type 7 d) (hdp : 2 ≤ d) (hE : jEnd X (some .int) 0 0 (fun r0 n0 h0 => r0 = (some (.int vE)) ∧ n0 = jN ∧ h0 = jE (jmix r cE))) {k_67 : Nat} (ih_67 : ∀ (v2 : Int32) (c : jS), lpk (fun s : (Int32 × jS) => m_type_S67 s.1 s.2) k_67 (v2, c) = some (vE, cE) → J X 0 0 jN (jE (jmix r c)) [(0, .ref 30), (2, .int v2)] [] 67) : ∀ (v2 : Int32) (c : jS), lq (fun s : (Int32 × jS) => m_type_S67 s.1 s.2) k_67 (vE, cE) (m_type_P260_67 v2 c) → J X 0 0 jN (jE (jmix r c)) [(0, .ref 30), (2, .int v2)] [] 260 := by
  intro v2 c h
  conv at h => arg 4; unfold m_type_P260_67
  refine j_aload_n (pc := 260) hX dX10_type_260 rfl rfl ?_
  refine j_aload_n (pc := 261) hX dX10_type_261 rfl rfl ?_
  refine k_getI (pc := 262) (x := (c 30 24)) hX fl_10_148 dX10_type_262 rfl rfl rfl ?_
  refine j_if_gt (pc := 265) (tgt := 277) hX dX10_type_265 (by decide) (fun z => ?_) (fun z => ?_)
  · replace h := lq_t z h
    refine j_sub (lv' := [(0, .ref 30), (2, .int v2)]) ⟨rfl, rfl, trivial⟩ ?_
    exact tj_m_type_P277_67 hX hdp hE ih_67 _ _ h
  · replace h := lq_f z h
    refine j_aload_n (pc := 268) hX dX10_type_268 rfl rfl ?_
    refine k_getI (pc := 269) (x := (c 30 22)) hX fl_10_151 dX10_type_269 rfl rfl rfl ?_
    refine j_bipush (pc := 272) (v := (-3 : Int32)) hX dX10_type_272 (by decide) ?_
    refine j_icmp_ne (pc := 274) (tgt := 281) hX dX10_type_274 (by decide) (fun z => ?_) (fun z => ?_)
    · replace h := lq_f z h
      refine j_aload_n (pc := 281) hX dX10_type_281 rfl rfl ?_
      refine k_getI (pc := 282) (x := (c 30 0)) hX fl_10_13 dX10_type_282 rfl rfl rfl ?_
      refine j_sub (lv' := [(0, .ref 30)]) ⟨rfl, trivial⟩ ?_
      exact tj_m_type_P285_67 hX hdp hE ih_67 _ _ h
    · replace h := lq_t z h
      refine j_sub (lv' := [(0, .ref 30), (2, .int v2)]) ⟨rfl, rfl, trivial⟩ ?_
      exact tj_m_type_P277_67 hX hdp hE ih_67 _ _ h
set_option maxHeartbeats 4000000 in
set_option maxRecDepth 100000 in
theorem tl_m_type_L67 {X : jX} {d : Nat} {r : jS} {vE : Int32} {cE : jS} (hX : jOk X RX10 cX10_type 7 d) (hdp : 2 ≤ d) (hE : jEnd X (some .int) 0 0 (fun r0 n0 h0 => r0 = (some (.int vE)) ∧ n0 = jN ∧ h0 = jE (jmix r cE))) : ∀ (v2 : Int32) (c : jS), m_type_L67 v2 c = some (vE, cE) → J X 0 0 jN (jE (jmix r c)) [(0, .ref 30), (2, .int v2)] [] 67 := by
  intro v2 c h
  unfold m_type_L67 at h
  replace h := lp_some h
  obtain ⟨k_67, h⟩ := h
  induction k_67 generalizing v2 c with
  | zero => cases h
  | succ k_67 ih_67 =>
    replace h : lq (fun s : (Int32 × jS) => m_type_S67 s.1 s.2) k_67 (vE, cE) (m_type_S67 v2 c) := lpk_succ (s := (v2, c)) h
    conv at h => arg 4; unfold m_type_S67
    refine j_aload_n (pc := 67) hX dX10_type_67 rfl rfl ?_
    refine k_getI (pc := 68) (x := (c 30 14)) hX fl_10_145 dX10_type_68 rfl rfl rfl ?_
    refine j_if_le (pc := 71) (tgt := 260) hX dX10_type_71 (by decide) (fun z => ?_) (fun z => ?_)
    · replace h := lq_t z h
      refine j_sub (lv' := [(0, .ref 30), (2, .int v2)]) ⟨rfl, rfl, trivial⟩ ?_
      exact tj_m_type_P260_67 hX hdp hE ih_67 _ _ h
    · replace h := lq_f z h
      refine j_aload_n (pc := 74) hX dX10_type_74 rfl rfl ?_
      refine k_getI (pc := 75) (x := (c 30 24)) hX fl_10_148 dX10_type_75 rfl rfl rfl ?_
      refine j_if_ne (pc := 78) (tgt := 260) hX dX10_type_78 (by decide) (fun z => ?_) (fun z => ?_)
      · replace h := lq_f z h
        refine j_sub (lv' := [(0, .ref 30), (2, .int v2)]) ⟨rfl, rfl, trivial⟩ ?_
        exact tj_m_type_P260_67 hX hdp hE ih_67 _ _ h
      · replace h := lq_t z h
        refine j_aload_n (pc := 81) hX dX10_type_81 rfl rfl ?_
        refine k_getI (pc := 82) (x := (c 30 22)) hX fl_10_151 dX10_type_82 rfl rfl rfl ?_
        refine j_bipush (pc := 85) (v := (-3 : Int32)) hX dX10_type_85 (by decide) ?_
        refine j_icmp_eq (pc := 87) (tgt := 260) hX dX10_type_87 (by decide) (fun z => ?_) (fun z => ?_)
        · replace h := lq_t z h
          refine j_sub (lv' := [(0, .ref 30), (2, .int v2)]) ⟨rfl, rfl, trivial⟩ ?_
          exact tj_m_type_P260_67 hX hdp hE ih_67 _ _ h
        · replace h := lq_f z h
          refine j_aload_n (pc := 90) hX dX10_type_90 rfl rfl ?_
          refine k_getI (pc := 91) (x := (c 30 14)) hX fl_10_145 dX10_type_91 rfl rfl rfl ?_
          refine j_iconst (pc := 94) (v := (1 : Int32)) hX dX10_type_94 (by decide) ?_
          refine j_isub (pc := 95) hX dX10_type_95 ?_
          refine j_istore_n (pc := 96) hX dX10_type_96 rfl (by decide) (by decide) ?_
          refine j_aload_n (pc := 97) hX dX10_type_97 rfl rfl ?_
          refine k_getR (pc := 98) (q := 43) hX fl_10_54 dX10_type_98 rfl rfl ?_
          refine j_iload_n (pc := 101) hX dX10_type_101 rfl rfl ?_
          obtain ⟨hg, h⟩ := lq_gd h
          refine k_iald (pc := 102) (x := (c 43 (((c 30 14) - (1 : Int32))).toNatClampNeg)) hX dX10_type_102 rfl hg rfl ?_
          refine j_istore (pc := 103) hX dX10_type_103 (by decide) (by decide) ?_
          refine j_aload_n (pc := 105) hX dX10_type_105 rfl rfl ?_
          refine k_getR (pc := 106) (q := 44) hX fl_10_57 dX10_type_106 rfl rfl ?_
          refine j_iload_n (pc := 109) hX dX10_type_109 rfl rfl ?_
          obtain ⟨hg, h⟩ := lq_gd h
          refine k_iald (pc := 110) (x := (c 44 (((c 30 14) - (1 : Int32))).toNatClampNeg)) hX dX10_type_110 rfl hg rfl ?_
          refine j_istore (pc := 111) hX dX10_type_111 (by decide) (by decide) ?_
          refine j_aload_n (pc := 113) hX dX10_type_113 rfl rfl ?_
          refine k_getR (pc := 114) (q := 44) hX fl_10_57 dX10_type_114 rfl rfl ?_
          refine j_iload_n (pc := 117) hX dX10_type_117 rfl rfl ?_
          refine j_dup2 (pc := 118) hX dX10_type_118 rfl rfl ?_
          obtain ⟨hg, h⟩ := lq_gd h
          refine k_iald (pc := 119) (x := (c 44 (((c 30 14) - (1 : Int32))).toNatClampNeg)) hX dX10_type_119 rfl hg rfl ?_
          refine j_iconst (pc := 120) (v := (1 : Int32)) hX dX10_type_120 (by decide) ?_
          refine j_iadd (pc := 121) hX dX10_type_121 ?_
          obtain ⟨hg, h⟩ := lq_gd h
          obtain ⟨c8, hc, h⟩ := lq_lt h
          refine k_iast (pc := 122) (c' := jmix r c8) hX dX10_type_122 rfl hg (jmix_me rfl hc) ?_
          refine j_aload_n (pc := 123) hX dX10_type_123 rfl rfl ?_
          refine k_getR (pc := 124) (q := 35) hX fl_10_30 dX10_type_124 rfl rfl ?_
          refine j_iload (pc := 127) hX dX10_type_127 rfl ?_
          obtain ⟨hg, h⟩ := lq_gd h
          refine k_iald (pc := 129) (x := (c8 35 ((c 43 (((c 30 14) - (1 : Int32))).toNatClampNeg)).toNatClampNeg)) hX dX10_type_129 rfl hg rfl ?_
          refine j_istore (pc := 130) hX dX10_type_130 (by decide) (by decide) ?_
          refine j_iload (pc := 132) hX dX10_type_132 rfl ?_
          refine j_if_ne (pc := 134) (tgt := 155) hX dX10_type_134 (by decide) (fun z => ?_) (fun z => ?_)
          · replace h := lq_f z h
            refine j_iload (pc := 155) hX dX10_type_155 rfl ?_
            refine j_iconst (pc := 157) (v := (1 : Int32)) hX dX10_type_157 (by decide) ?_
            refine j_icmp_ne (pc := 158) (tgt := 206) hX dX10_type_158 (by decide) (fun z => ?_) (fun z => ?_)
            · replace h := lq_f z h
              refine j_iload (pc := 206) hX dX10_type_206 rfl ?_
              refine j_iconst (pc := 208) (v := (2 : Int32)) hX dX10_type_208 (by decide) ?_
              refine j_icmp_eq (pc := 209) (tgt := 218) hX dX10_type_209 (by decide) (fun z => ?_) (fun z => ?_)
              · replace h := lq_t z h
                refine j_aload_n (pc := 218) hX dX10_type_218 rfl rfl ?_
                refine j_iload_n (pc := 219) hX dX10_type_219 rfl rfl ?_
                refine j_iload (pc := 220) hX dX10_type_220 rfl ?_
                refine j_iload (pc := 222) hX dX10_type_222 rfl ?_
                obtain ⟨_u, c9, h1, h⟩ := lq_bd h
                refine k_callVV (pc := 224) (st := []) hX ln_10_166 dX10_type_224 (t_m_typeOfBinder (d := 1) (Nat.le_refl _) h1) rfl rfl rfl (by omega) (Nat.le_of_ble_eq_true rfl) ?_
                refine j_goto (pc := 227) (tgt := 257) hX dX10_type_227 (by decide) ?_
                refine j_goto (pc := 257) (tgt := 67) hX dX10_type_257 (by decide) ?_
                refine j_sub (lv' := [(0, .ref 30), (2, .int v2)]) ⟨rfl, rfl, trivial⟩ ?_
                exact ih_67 _ _ (lq_l h)
              · replace h := lq_f z h
                refine j_iload (pc := 212) hX dX10_type_212 rfl ?_
                refine j_iconst (pc := 214) (v := (4 : Int32)) hX dX10_type_214 (by decide) ?_
                refine j_icmp_ne (pc := 215) (tgt := 230) hX dX10_type_215 (by decide) (fun z => ?_) (fun z => ?_)
                · replace h := lq_f z h
                  refine j_iload (pc := 230) hX dX10_type_230 rfl ?_
                  refine j_iconst (pc := 232) (v := (3 : Int32)) hX dX10_type_232 (by decide) ?_
                  refine j_icmp_ne (pc := 233) (tgt := 248) hX dX10_type_233 (by decide) (fun z => ?_) (fun z => ?_)
                  · replace h := lq_f z h
                    refine j_aload_n (pc := 248) hX dX10_type_248 rfl rfl ?_
                    refine j_iload_n (pc := 249) hX dX10_type_249 rfl rfl ?_
                    refine j_iload (pc := 250) hX dX10_type_250 rfl ?_
                    refine j_iload (pc := 252) hX dX10_type_252 rfl ?_
                    obtain ⟨_u, c10, h1, h⟩ := lq_bd h
                    refine k_callVV (pc := 254) (st := []) hX ln_10_172 dX10_type_254 (t_m_typeOfNumbers (d := 1) (Nat.le_refl _) h1) rfl rfl rfl (by omega) (Nat.le_of_ble_eq_true rfl) ?_
                    refine j_goto (pc := 257) (tgt := 67) hX dX10_type_257 (by decide) ?_
                    refine j_sub (lv' := [(0, .ref 30), (2, .int v2)]) ⟨rfl, rfl, trivial⟩ ?_
                    exact ih_67 _ _ (lq_l h)
                  · replace h := lq_t z h
                    refine j_aload_n (pc := 236) hX dX10_type_236 rfl rfl ?_
                    refine j_iload_n (pc := 237) hX dX10_type_237 rfl rfl ?_
                    refine j_iload (pc := 238) hX dX10_type_238 rfl ?_
                    refine j_iload (pc := 240) hX dX10_type_240 rfl ?_
                    obtain ⟨_u, c11, h1, h⟩ := lq_bd h
                    refine k_callVV (pc := 242) (st := []) hX ln_10_169 dX10_type_242 (t_m_typeOfCall (d := 1) (Nat.le_refl _) h1) rfl rfl rfl (by omega) (Nat.le_of_ble_eq_true rfl) ?_
                    refine j_goto (pc := 245) (tgt := 257) hX dX10_type_245 (by decide) ?_
                    refine j_goto (pc := 257) (tgt := 67) hX dX10_type_257 (by decide) ?_
                    refine j_sub (lv' := [(0, .ref 30), (2, .int v2)]) ⟨rfl, rfl, trivial⟩ ?_
                    exact ih_67 _ _ (lq_l h)
                · replace h := lq_t z h
                  refine j_aload_n (pc := 218) hX dX10_type_218 rfl rfl ?_
                  refine j_iload_n (pc := 219) hX dX10_type_219 rfl rfl ?_
                  refine j_iload (pc := 220) hX dX10_type_220 rfl ?_
                  refine j_iload (pc := 222) hX dX10_type_222 rfl ?_
                  obtain ⟨_u, c12, h1, h⟩ := lq_bd h
                  refine k_callVV (pc := 224) (st := []) hX ln_10_166 dX10_type_224 (t_m_typeOfBinder (d := 1) (Nat.le_refl _) h1) rfl rfl rfl (by omega) (Nat.le_of_ble_eq_true rfl) ?_
                  refine j_goto (pc := 227) (tgt := 257) hX dX10_type_227 (by decide) ?_
                  refine j_goto (pc := 257) (tgt := 67) hX dX10_type_257 (by decide) ?_
                  refine j_sub (lv' := [(0, .ref 30), (2, .int v2)]) ⟨rfl, rfl, trivial⟩ ?_
                  exact ih_67 _ _ (lq_l h)
            · replace h := lq_t z h
              refine j_aload_n (pc := 161) hX dX10_type_161 rfl rfl ?_
              refine j_aload_n (pc := 162) hX dX10_type_162 rfl rfl ?_
              refine k_getR (pc := 163) (q := 50) hX fl_10_75 dX10_type_163 rfl rfl ?_
              refine j_aload_n (pc := 166) hX dX10_type_166 rfl rfl ?_
              refine k_getR (pc := 167) (q := 37) hX fl_10_36 dX10_type_167 rfl rfl ?_
              refine j_iload (pc := 170) hX dX10_type_170 rfl ?_
              obtain ⟨hg, h⟩ := lq_gd h
              refine k_iald (pc := 172) (x := (c8 37 ((c 43 (((c 30 14) - (1 : Int32))).toNatClampNeg)).toNatClampNeg)) hX dX10_type_172 rfl hg rfl ?_
              obtain ⟨hg, h⟩ := lq_gd h
              refine k_iald (pc := 173) (x := (c8 50 ((c8 37 ((c 43 (((c 30 14) - (1 : Int32))).toNatClampNeg)).toNatClampNeg)).toNatClampNeg)) hX dX10_type_173 rfl hg rfl ?_
              obtain ⟨c13, hc, h⟩ := lq_lt h
              refine k_putI (pc := 174) (c' := jmix r c13) hX pfl_10_151 dX10_type_174 rfl rfl (fun _ => ⟨rfl, rfl⟩) (jmix_me rfl hc) ?_
              refine j_aload_n (pc := 177) hX dX10_type_177 rfl rfl ?_
              refine j_dup (pc := 178) hX dX10_type_178 rfl ?_
              refine k_getI (pc := 179) (x := (c13 30 14)) hX fl_10_145 dX10_type_179 rfl rfl rfl ?_
              refine j_iconst (pc := 182) (v := (1 : Int32)) hX dX10_type_182 (by decide) ?_
              refine j_isub (pc := 183) hX dX10_type_183 ?_
              obtain ⟨c14, hc, h⟩ := lq_lt h
              refine k_putI (pc := 184) (c' := jmix r c14) hX pfl_10_145 dX10_type_184 rfl rfl (fun _ => ⟨rfl, rfl⟩) (jmix_me rfl hc) ?_
              refine j_aload_n (pc := 187) hX dX10_type_187 rfl rfl ?_
              refine k_getI (pc := 188) (x := (c14 30 22)) hX fl_10_151 dX10_type_188 rfl rfl rfl ?_
              refine j_bipush (pc := 191) (v := (-2 : Int32)) hX dX10_type_191 (by decide) ?_
              refine j_icmp_ne (pc := 193) (tgt := 257) hX dX10_type_193 (by decide) (fun z => ?_) (fun z => ?_)
              · replace h := lq_f z h
                refine j_goto (pc := 257) (tgt := 67) hX dX10_type_257 (by decide) ?_
                refine j_sub (lv' := [(0, .ref 30), (2, .int v2)]) ⟨rfl, rfl, trivial⟩ ?_
                exact ih_67 _ _ (lq_l h)
              · replace h := lq_t z h
                refine j_aload_n (pc := 196) hX dX10_type_196 rfl rfl ?_
                refine j_iconst (pc := 197) (v := (1 : Int32)) hX dX10_type_197 (by decide) ?_
                refine j_iload (pc := 198) hX dX10_type_198 rfl ?_
                obtain ⟨_u, c15, h1, h⟩ := lq_bd h
                refine k_callVV (pc := 200) (st := []) hX ln_10_158 dX10_type_200 (t_m_faults (d := 0) (Nat.le_refl _) h1) rfl rfl rfl (by omega) (Nat.le_of_ble_eq_true rfl) ?_
                refine j_goto (pc := 203) (tgt := 257) hX dX10_type_203 (by decide) ?_
                refine j_goto (pc := 257) (tgt := 67) hX dX10_type_257 (by decide) ?_
                refine j_sub (lv' := [(0, .ref 30), (2, .int v2)]) ⟨rfl, rfl, trivial⟩ ?_
                exact ih_67 _ _ (lq_l h)
          · replace h := lq_t z h
            refine j_aload_n (pc := 137) hX dX10_type_137 rfl rfl ?_
            refine j_iconst (pc := 138) (v := (0 : Int32)) hX dX10_type_138 (by decide) ?_
            obtain ⟨c16, hc, h⟩ := lq_lt h
            refine k_putI (pc := 139) (c' := jmix r c16) hX pfl_10_151 dX10_type_139 rfl rfl (fun _ => ⟨rfl, rfl⟩) (jmix_me rfl hc) ?_
            refine j_aload_n (pc := 142) hX dX10_type_142 rfl rfl ?_
            refine j_dup (pc := 143) hX dX10_type_143 rfl ?_
            refine k_getI (pc := 144) (x := (c16 30 14)) hX fl_10_145 dX10_type_144 rfl rfl rfl ?_
            refine j_iconst (pc := 147) (v := (1 : Int32)) hX dX10_type_147 (by decide) ?_
            refine j_isub (pc := 148) hX dX10_type_148 ?_
            obtain ⟨c17, hc, h⟩ := lq_lt h
            refine k_putI (pc := 149) (c' := jmix r c17) hX pfl_10_145 dX10_type_149 rfl rfl (fun _ => ⟨rfl, rfl⟩) (jmix_me rfl hc) ?_
            refine j_goto (pc := 152) (tgt := 257) hX dX10_type_152 (by decide) ?_
            refine j_goto (pc := 257) (tgt := 67) hX dX10_type_257 (by decide) ?_
            refine j_sub (lv' := [(0, .ref 30), (2, .int v2)]) ⟨rfl, rfl, trivial⟩ ?_
            exact ih_67 _ _ (lq_l h)
set_option maxHeartbeats 4000000 in
set_option maxRecDepth 100000 in
theorem tl_m_type_L28 {X : jX} {d : Nat} {r : jS} {vE : Int32} {cE : jS} (hX : jOk X RX10 cX10_type 7 d) (hdp : 2 ≤ d) (hE : jEnd X (some .int) 0 0 (fun r0 n0 h0 => r0 = (some (.int vE)) ∧ n0 = jN ∧ h0 = jE (jmix r cE))) : ∀ (v1 : Int32) (v2 : Int32) (v3 : Int32) (c : jS), m_type_L28 v1 v2 v3 c = some (vE, cE) → J X 0 0 jN (jE (jmix r c)) [(0, .ref 30), (1, .int v1), (2, .int v2), (3, .int v3)] [] 28 := by
  intro v1 v2 v3 c h
  unfold m_type_L28 at h
  replace h := lp_some h
  obtain ⟨k_28, h⟩ := h
  induction k_28 generalizing v1 v2 v3 c with
  | zero => cases h
  | succ k_28 ih_28 =>
    replace h : lq (fun s : (Int32 × Int32 × Int32 × jS) => m_type_S28 s.1 s.2.1 s.2.2.1 s.2.2.2) k_28 (vE, cE) (m_type_S28 v1 v2 v3 c) := lpk_succ (s := (v1, v2, v3, c)) h
    conv at h => arg 4; unfold m_type_S28
    refine j_iload_n (pc := 28) hX dX10_type_28 rfl rfl ?_
    refine j_bipush (pc := 29) (v := (26 : Int32)) hX dX10_type_29 (by decide) ?_
    refine j_icmp_ge (pc := 31) (tgt := 52) hX dX10_type_31 (by decide) (fun z => ?_) (fun z => ?_)
    · replace h := lq_t z h
      refine j_aload_n (pc := 52) hX dX10_type_52 rfl rfl ?_
      refine j_iconst (pc := 53) (v := (0 : Int32)) hX dX10_type_53 (by decide) ?_
      obtain ⟨c4, hc, h⟩ := lq_lt h
      refine k_putI (pc := 54) (c' := jmix r c4) hX pfl_10_145 dX10_type_54 rfl rfl (fun _ => ⟨rfl, rfl⟩) (jmix_me rfl hc) ?_
      refine j_aload_n (pc := 57) hX dX10_type_57 rfl rfl ?_
      refine j_iconst (pc := 58) (v := (0 : Int32)) hX dX10_type_58 (by decide) ?_
      obtain ⟨c5, hc, h⟩ := lq_lt h
      refine k_putI (pc := 59) (c' := jmix r c5) hX pfl_10_151 dX10_type_59 rfl rfl (fun _ => ⟨rfl, rfl⟩) (jmix_me rfl hc) ?_
      refine j_aload_n (pc := 62) hX dX10_type_62 rfl rfl ?_
      refine j_iload_n (pc := 63) hX dX10_type_63 rfl rfl ?_
      obtain ⟨_u, c6, h1, h⟩ := lq_bd h
      refine k_callVV (pc := 64) (st := []) hX ln_10_154 dX10_type_64 (t_m_push (d := 0) (Nat.le_refl _) h1) rfl rfl rfl (by omega) (Nat.le_of_ble_eq_true rfl) ?_
      refine j_sub (lv' := [(0, .ref 30), (2, .int v2)]) ⟨rfl, rfl, trivial⟩ ?_
      exact tl_m_type_L67 hX hdp hE _ _ (lq_om h)
    · replace h := lq_f z h
      refine j_aload_n (pc := 34) hX dX10_type_34 rfl rfl ?_
      refine k_getR (pc := 35) (q := 50) hX fl_10_75 dX10_type_35 rfl rfl ?_
      refine j_iload_n (pc := 38) hX dX10_type_38 rfl rfl ?_
      refine j_aload_n (pc := 39) hX dX10_type_39 rfl rfl ?_
      refine k_getR (pc := 40) (q := 34) hX fl_10_27 dX10_type_40 rfl rfl ?_
      refine j_iload_n (pc := 43) hX dX10_type_43 rfl rfl ?_
      obtain ⟨hg, h⟩ := lq_gd h
      refine k_iald (pc := 44) (x := (c 34 (v3).toNatClampNeg)) hX dX10_type_44 rfl hg rfl ?_
      obtain ⟨hg, h⟩ := lq_gd h
      obtain ⟨c18, hc, h⟩ := lq_lt h
      refine k_iast (pc := 45) (c' := jmix r c18) hX dX10_type_45 rfl hg (jmix_me rfl hc) ?_
      refine j_iinc (pc := 46) hX dX10_type_46 rfl (v := (v3 + (1 : Int32))) rfl (by decide) (by decide) ?_
      refine j_goto (pc := 49) (tgt := 28) hX dX10_type_49 (by decide) ?_
      refine j_sub (lv' := [(0, .ref 30), (1, .int v1), (2, .int v2), (3, .int (v3 + (1 : Int32)))]) ⟨rfl, rfl, rfl, rfl, trivial⟩ ?_
      exact ih_28 _ _ _ _ (lq_l h)
set_option maxHeartbeats 4000000 in
set_option maxRecDepth 100000 in
theorem t_m_type {l : Launch} {D : va_G} {G : Nat → ClassId} {d : Nat} (hdp : 2 ≤ d) {c r : jS} {a1 : Int32} {vE : Int32} {cE : jS} (h : m_type c a1 = some (vE, cE)) : jC l D G d M_m_type [.ref 30, .int a1] (jmix r c) (some (.int vE)) (jmix r cE) := by
  refine jM_of rfl (Nat.le_of_ble_eq_true rfl) ?_
  intro X hl hD hG _ _ hX hE _
  subst hl hD hG
  unfold m_type at h
  show J X 0 0 jN (jE (jmix r c)) [(0, .ref 30), (1, .int a1)] [] 0
  refine j_aload_n (pc := 0) hX dX10_type_0 rfl rfl ?_
  refine j_iload_n (pc := 1) hX dX10_type_1 rfl rfl ?_
  obtain ⟨r1, h1, h⟩ := ob_some h
  refine k_callVI (pc := 2) (st := []) hX ln_10_136 dX10_type_2 (t_m_isTerm (d := 1) (Nat.le_refl _) h1) rfl rfl rfl (by omega) (Nat.le_of_ble_eq_true rfl) ?_
  refine j_if_ne (pc := 5) (tgt := 10) hX dX10_type_5 (by decide) (fun z => ?_) (fun z => ?_)
  · replace h := ite_f z h
    refine j_aload_n (pc := 10) hX dX10_type_10 rfl rfl ?_
    refine k_getI (pc := 11) (x := (c 30 0)) hX fl_10_13 dX10_type_11 rfl rfl rfl ?_
    refine j_istore_n (pc := 14) hX dX10_type_14 rfl (by decide) (by decide) ?_
    refine j_aload_n (pc := 15) hX dX10_type_15 rfl rfl ?_
    refine j_iconst (pc := 16) (v := (0 : Int32)) hX dX10_type_16 (by decide) ?_
    obtain ⟨c2, hc, h⟩ := lt_some h
    refine k_putI (pc := 17) (c' := jmix r c2) hX pfl_10_148 dX10_type_17 rfl rfl (fun _ => ⟨rfl, rfl⟩) (jmix_me rfl hc) ?_
    refine j_aload_n (pc := 20) hX dX10_type_20 rfl rfl ?_
    refine j_bipush (pc := 21) (v := (-2 : Int32)) hX dX10_type_21 (by decide) ?_
    obtain ⟨c3, hc, h⟩ := lt_some h
    refine k_putI (pc := 23) (c' := jmix r c3) hX pfl_10_78 dX10_type_23 rfl rfl (fun _ => ⟨rfl, rfl⟩) (jmix_me rfl hc) ?_
    refine j_iconst (pc := 26) (v := (0 : Int32)) hX dX10_type_26 (by decide) ?_
    refine j_istore_n (pc := 27) hX dX10_type_27 rfl (by decide) (by decide) ?_
    refine j_sub (lv' := [(0, .ref 30), (1, .int a1), (2, .int (c 30 0)), (3, .int (0 : Int32))]) ⟨rfl, rfl, rfl, rfl, trivial⟩ ?_
    exact tl_m_type_L28 hX hdp hE _ _ _ _ h
  · replace h := ite_t z h
    refine j_iconst (pc := 8) (v := (-1 : Int32)) hX dX10_type_8 (by decide) ?_
    obtain ⟨h, h0⟩ := Prod.mk.inj (Option.some.inj h)
    subst h h0
    exact j_iret (pc := 9) hX hE rfl rfl dX10_type_9 (Nat.le_refl 0) (Nat.le_refl 0) ⟨rfl, rfl, rfl⟩

set_option maxHeartbeats 4000000 in
set_option maxRecDepth 100000 in
theorem t_m_fault {l : Launch} {D : va_G} {G : Nat → ClassId} {d : Nat} (hdp : 0 ≤ d) {c r : jS} {a1 : Int32} {vE : Int32} (h : m_fault c a1 = some vE) : jC l D G d M_m_fault [.ref 30, .int a1] (jmix r c) (some (.int vE)) (jmix r c) := by
  refine jM_of rfl (Nat.le_of_ble_eq_true rfl) ?_
  intro X hl hD hG _ _ hX hE _
  subst hl hD hG
  unfold m_fault at h
  show J X 0 0 jN (jE (jmix r c)) [(0, .ref 30), (1, .int a1)] [] 0
  refine j_iload_n (pc := 0) hX dX10_fault_0 rfl rfl ?_
  refine j_if_ne (pc := 1) (tgt := 11) hX dX10_fault_1 (by decide) (fun z => ?_) (fun z => ?_)
  · replace h := ite_f z h
    refine j_iload_n (pc := 11) hX dX10_fault_11 rfl rfl ?_
    refine j_iconst (pc := 12) (v := (1 : Int32)) hX dX10_fault_12 (by decide) ?_
    refine j_icmp_ne (pc := 13) (tgt := 23) hX dX10_fault_13 (by decide) (fun z => ?_) (fun z => ?_)
    · replace h := ite_f z h
      refine j_iconst (pc := 23) (v := (-1 : Int32)) hX dX10_fault_23 (by decide) ?_
      replace h := Option.some.inj h
      subst h
      exact j_iret (pc := 24) hX hE rfl rfl dX10_fault_24 (Nat.le_refl 0) (Nat.le_refl 0) ⟨rfl, rfl, rfl⟩
    · replace h := ite_t z h
      refine j_aload_n (pc := 16) hX dX10_fault_16 rfl rfl ?_
      refine k_getI (pc := 17) (x := (c 30 25)) hX fl_10_78 dX10_fault_17 rfl rfl rfl ?_
      refine j_goto (pc := 20) (tgt := 24) hX dX10_fault_20 (by decide) ?_
      replace h := Option.some.inj h
      subst h
      exact j_iret (pc := 24) hX hE rfl rfl dX10_fault_24 (Nat.le_refl 0) (Nat.le_refl 0) ⟨rfl, rfl, rfl⟩
  · replace h := ite_t z h
    refine j_aload_n (pc := 4) hX dX10_fault_4 rfl rfl ?_
    refine k_getI (pc := 5) (x := (c 30 24)) hX fl_10_148 dX10_fault_5 rfl rfl rfl ?_
    refine j_goto (pc := 8) (tgt := 24) hX dX10_fault_8 (by decide) ?_
    replace h := Option.some.inj h
    subst h
    exact j_iret (pc := 24) hX hE rfl rfl dX10_fault_24 (Nat.le_refl 0) (Nat.le_refl 0) ⟨rfl, rfl, rfl⟩

set_option maxHeartbeats 4000000 in
set_option maxRecDepth 100000 in
theorem t_m_isLikeHere {l : Launch} {D : va_G} {G : Nat → ClassId} {d : Nat} (hdp : 0 ≤ d) {c r : jS} {a1 : Int32} {a2 : Int32} {vE : Int32} (h : m_isLikeHere c a1 a2 = some vE) : jC l D G d M_m_isLikeHere [.ref 30, .int a1, .int a2] (jmix r c) (some (.int vE)) (jmix r c) := by
  refine jM_of rfl (Nat.le_of_ble_eq_true rfl) ?_
  intro X hl hD hG _ _ hX hE _
  subst hl hD hG
  unfold m_isLikeHere at h
  show J X 0 0 jN (jE (jmix r c)) [(0, .ref 30), (1, .int a1), (2, .int a2)] [] 0
  refine j_aload_n (pc := 0) hX dX10_isLikeHere_0 rfl rfl ?_
  refine k_getR (pc := 1) (q := 35) hX fl_10_30 dX10_isLikeHere_1 rfl rfl ?_
  refine j_iload_n (pc := 4) hX dX10_isLikeHere_4 rfl rfl ?_
  obtain ⟨hg, h⟩ := gd_some h
  refine k_iald (pc := 5) (x := (c 35 (a1).toNatClampNeg)) hX dX10_isLikeHere_5 rfl hg rfl ?_
  refine j_aload_n (pc := 6) hX dX10_isLikeHere_6 rfl rfl ?_
  refine k_getR (pc := 7) (q := 35) hX fl_10_30 dX10_isLikeHere_7 rfl rfl ?_
  refine j_iload_n (pc := 10) hX dX10_isLikeHere_10 rfl rfl ?_
  obtain ⟨hg, h⟩ := gd_some h
  refine k_iald (pc := 11) (x := (c 35 (a2).toNatClampNeg)) hX dX10_isLikeHere_11 rfl hg rfl ?_
  refine j_icmp_eq (pc := 12) (tgt := 17) hX dX10_isLikeHere_12 (by decide) (fun z => ?_) (fun z => ?_)
  · replace h := ite_t z h
    refine j_aload_n (pc := 17) hX dX10_isLikeHere_17 rfl rfl ?_
    refine k_getR (pc := 18) (q := 35) hX fl_10_30 dX10_isLikeHere_18 rfl rfl ?_
    refine j_iload_n (pc := 21) hX dX10_isLikeHere_21 rfl rfl ?_
    obtain ⟨hg, h⟩ := gd_some h
    refine k_iald (pc := 22) (x := (c 35 (a1).toNatClampNeg)) hX dX10_isLikeHere_22 rfl hg rfl ?_
    refine j_iconst (pc := 23) (v := (1 : Int32)) hX dX10_isLikeHere_23 (by decide) ?_
    refine j_icmp_ne (pc := 24) (tgt := 81) hX dX10_isLikeHere_24 (by decide) (fun z => ?_) (fun z => ?_)
    · replace h := ite_f z h
      refine j_aload_n (pc := 81) hX dX10_isLikeHere_81 rfl rfl ?_
      refine k_getR (pc := 82) (q := 35) hX fl_10_30 dX10_isLikeHere_82 rfl rfl ?_
      refine j_iload_n (pc := 85) hX dX10_isLikeHere_85 rfl rfl ?_
      obtain ⟨hg, h⟩ := gd_some h
      refine k_iald (pc := 86) (x := (c 35 (a1).toNatClampNeg)) hX dX10_isLikeHere_86 rfl hg rfl ?_
      refine j_if_ne (pc := 87) (tgt := 113) hX dX10_isLikeHere_87 (by decide) (fun z => ?_) (fun z => ?_)
      · replace h := ite_f z h
        refine j_aload_n (pc := 113) hX dX10_isLikeHere_113 rfl rfl ?_
        refine k_getR (pc := 114) (q := 35) hX fl_10_30 dX10_isLikeHere_114 rfl rfl ?_
        refine j_iload_n (pc := 117) hX dX10_isLikeHere_117 rfl rfl ?_
        obtain ⟨hg, h⟩ := gd_some h
        refine k_iald (pc := 118) (x := (c 35 (a1).toNatClampNeg)) hX dX10_isLikeHere_118 rfl hg rfl ?_
        refine j_iconst (pc := 119) (v := (2 : Int32)) hX dX10_isLikeHere_119 (by decide) ?_
        refine j_icmp_ne (pc := 120) (tgt := 138) hX dX10_isLikeHere_120 (by decide) (fun z => ?_) (fun z => ?_)
        · replace h := ite_f z h
          refine j_iconst (pc := 138) (v := (1 : Int32)) hX dX10_isLikeHere_138 (by decide) ?_
          refine j_goto (pc := 139) (tgt := 143) hX dX10_isLikeHere_139 (by decide) ?_
          replace h := Option.some.inj h
          subst h
          exact j_iret (pc := 143) hX hE rfl rfl dX10_isLikeHere_143 (Nat.le_refl 0) (Nat.le_refl 0) ⟨rfl, rfl, rfl⟩
        · replace h := ite_t z h
          refine j_aload_n (pc := 123) hX dX10_isLikeHere_123 rfl rfl ?_
          refine k_getR (pc := 124) (q := 38) hX fl_10_39 dX10_isLikeHere_124 rfl rfl ?_
          refine j_iload_n (pc := 127) hX dX10_isLikeHere_127 rfl rfl ?_
          obtain ⟨hg, h⟩ := gd_some h
          refine k_iald (pc := 128) (x := (c 38 (a1).toNatClampNeg)) hX dX10_isLikeHere_128 rfl hg rfl ?_
          refine j_aload_n (pc := 129) hX dX10_isLikeHere_129 rfl rfl ?_
          refine k_getR (pc := 130) (q := 38) hX fl_10_39 dX10_isLikeHere_130 rfl rfl ?_
          refine j_iload_n (pc := 133) hX dX10_isLikeHere_133 rfl rfl ?_
          obtain ⟨hg, h⟩ := gd_some h
          refine k_iald (pc := 134) (x := (c 38 (a2).toNatClampNeg)) hX dX10_isLikeHere_134 rfl hg rfl ?_
          refine j_icmp_ne (pc := 135) (tgt := 142) hX dX10_isLikeHere_135 (by decide) (fun z => ?_) (fun z => ?_)
          · replace h := ite_f z h
            refine j_iconst (pc := 142) (v := (0 : Int32)) hX dX10_isLikeHere_142 (by decide) ?_
            replace h := Option.some.inj h
            subst h
            exact j_iret (pc := 143) hX hE rfl rfl dX10_isLikeHere_143 (Nat.le_refl 0) (Nat.le_refl 0) ⟨rfl, rfl, rfl⟩
          · replace h := ite_t z h
            refine j_iconst (pc := 138) (v := (1 : Int32)) hX dX10_isLikeHere_138 (by decide) ?_
            refine j_goto (pc := 139) (tgt := 143) hX dX10_isLikeHere_139 (by decide) ?_
            replace h := Option.some.inj h
            subst h
            exact j_iret (pc := 143) hX hE rfl rfl dX10_isLikeHere_143 (Nat.le_refl 0) (Nat.le_refl 0) ⟨rfl, rfl, rfl⟩
      · replace h := ite_t z h
        refine j_aload_n (pc := 90) hX dX10_isLikeHere_90 rfl rfl ?_
        refine k_getR (pc := 91) (q := 36) hX fl_10_33 dX10_isLikeHere_91 rfl rfl ?_
        refine j_iload_n (pc := 94) hX dX10_isLikeHere_94 rfl rfl ?_
        obtain ⟨hg, h⟩ := gd_some h
        refine k_iald (pc := 95) (x := (c 36 (a1).toNatClampNeg)) hX dX10_isLikeHere_95 rfl hg rfl ?_
        refine j_aload_n (pc := 96) hX dX10_isLikeHere_96 rfl rfl ?_
        refine k_getR (pc := 97) (q := 36) hX fl_10_33 dX10_isLikeHere_97 rfl rfl ?_
        refine j_iload_n (pc := 100) hX dX10_isLikeHere_100 rfl rfl ?_
        obtain ⟨hg, h⟩ := gd_some h
        refine k_iald (pc := 101) (x := (c 36 (a2).toNatClampNeg)) hX dX10_isLikeHere_101 rfl hg rfl ?_
        refine j_icmp_ne (pc := 102) (tgt := 109) hX dX10_isLikeHere_102 (by decide) (fun z => ?_) (fun z => ?_)
        · replace h := ite_f z h
          refine j_iconst (pc := 109) (v := (0 : Int32)) hX dX10_isLikeHere_109 (by decide) ?_
          refine j_goto (pc := 110) (tgt := 143) hX dX10_isLikeHere_110 (by decide) ?_
          replace h := Option.some.inj h
          subst h
          exact j_iret (pc := 143) hX hE rfl rfl dX10_isLikeHere_143 (Nat.le_refl 0) (Nat.le_refl 0) ⟨rfl, rfl, rfl⟩
        · replace h := ite_t z h
          refine j_iconst (pc := 105) (v := (1 : Int32)) hX dX10_isLikeHere_105 (by decide) ?_
          refine j_goto (pc := 106) (tgt := 143) hX dX10_isLikeHere_106 (by decide) ?_
          replace h := Option.some.inj h
          subst h
          exact j_iret (pc := 143) hX hE rfl rfl dX10_isLikeHere_143 (Nat.le_refl 0) (Nat.le_refl 0) ⟨rfl, rfl, rfl⟩
    · replace h := ite_t z h
      refine j_aload_n (pc := 27) hX dX10_isLikeHere_27 rfl rfl ?_
      refine k_getR (pc := 28) (q := 37) hX fl_10_36 dX10_isLikeHere_28 rfl rfl ?_
      refine j_iload_n (pc := 31) hX dX10_isLikeHere_31 rfl rfl ?_
      obtain ⟨hg, h⟩ := gd_some h
      refine k_iald (pc := 32) (x := (c 37 (a1).toNatClampNeg)) hX dX10_isLikeHere_32 rfl hg rfl ?_
      refine j_istore_n (pc := 33) hX dX10_isLikeHere_33 rfl (by decide) (by decide) ?_
      refine j_aload_n (pc := 34) hX dX10_isLikeHere_34 rfl rfl ?_
      refine k_getR (pc := 35) (q := 37) hX fl_10_36 dX10_isLikeHere_35 rfl rfl ?_
      refine j_iload_n (pc := 38) hX dX10_isLikeHere_38 rfl rfl ?_
      obtain ⟨hg, h⟩ := gd_some h
      refine k_iald (pc := 39) (x := (c 37 (a2).toNatClampNeg)) hX dX10_isLikeHere_39 rfl hg rfl ?_
      refine j_istore (pc := 40) hX dX10_isLikeHere_40 (by decide) (by decide) ?_
      refine j_aload_n (pc := 42) hX dX10_isLikeHere_42 rfl rfl ?_
      refine k_getR (pc := 43) (q := 51) hX fl_10_81 dX10_isLikeHere_43 rfl rfl ?_
      refine j_iload_n (pc := 46) hX dX10_isLikeHere_46 rfl rfl ?_
      obtain ⟨hg, h⟩ := gd_some h
      refine k_iald (pc := 47) (x := (c 51 ((c 37 (a1).toNatClampNeg)).toNatClampNeg)) hX dX10_isLikeHere_47 rfl hg rfl ?_
      refine j_aload_n (pc := 48) hX dX10_isLikeHere_48 rfl rfl ?_
      refine k_getR (pc := 49) (q := 52) hX fl_10_84 dX10_isLikeHere_49 rfl rfl ?_
      refine j_iload (pc := 52) hX dX10_isLikeHere_52 rfl ?_
      obtain ⟨hg, h⟩ := gd_some h
      refine k_iald (pc := 54) (x := (c 52 ((c 37 (a2).toNatClampNeg)).toNatClampNeg)) hX dX10_isLikeHere_54 rfl hg rfl ?_
      refine j_icmp_ne (pc := 55) (tgt := 79) hX dX10_isLikeHere_55 (by decide) (fun z => ?_) (fun z => ?_)
      · replace h := ite_f z h
        refine j_iconst (pc := 79) (v := (0 : Int32)) hX dX10_isLikeHere_79 (by decide) ?_
        replace h := Option.some.inj h
        subst h
        exact j_iret (pc := 80) hX hE rfl rfl dX10_isLikeHere_80 (Nat.le_refl 0) (Nat.le_refl 0) ⟨rfl, rfl, rfl⟩
      · replace h := ite_t z h
        refine j_aload_n (pc := 58) hX dX10_isLikeHere_58 rfl rfl ?_
        refine k_getR (pc := 59) (q := 51) hX fl_10_81 dX10_isLikeHere_59 rfl rfl ?_
        refine j_iload_n (pc := 62) hX dX10_isLikeHere_62 rfl rfl ?_
        obtain ⟨hg, h⟩ := gd_some h
        refine k_iald (pc := 63) (x := (c 51 ((c 37 (a1).toNatClampNeg)).toNatClampNeg)) hX dX10_isLikeHere_63 rfl hg rfl ?_
        refine j_bipush (pc := 64) (v := (-2 : Int32)) hX dX10_isLikeHere_64 (by decide) ?_
        refine j_icmp_ne (pc := 66) (tgt := 75) hX dX10_isLikeHere_66 (by decide) (fun z => ?_) (fun z => ?_)
        · replace h := ite_f z h
          refine j_iconst (pc := 75) (v := (1 : Int32)) hX dX10_isLikeHere_75 (by decide) ?_
          refine j_goto (pc := 76) (tgt := 80) hX dX10_isLikeHere_76 (by decide) ?_
          replace h := Option.some.inj h
          subst h
          exact j_iret (pc := 80) hX hE rfl rfl dX10_isLikeHere_80 (Nat.le_refl 0) (Nat.le_refl 0) ⟨rfl, rfl, rfl⟩
        · replace h := ite_t z h
          refine j_iload_n (pc := 69) hX dX10_isLikeHere_69 rfl rfl ?_
          refine j_iload (pc := 70) hX dX10_isLikeHere_70 rfl ?_
          refine j_icmp_ne (pc := 72) (tgt := 79) hX dX10_isLikeHere_72 (by decide) (fun z => ?_) (fun z => ?_)
          · replace h := ite_f z h
            refine j_iconst (pc := 79) (v := (0 : Int32)) hX dX10_isLikeHere_79 (by decide) ?_
            replace h := Option.some.inj h
            subst h
            exact j_iret (pc := 80) hX hE rfl rfl dX10_isLikeHere_80 (Nat.le_refl 0) (Nat.le_refl 0) ⟨rfl, rfl, rfl⟩
          · replace h := ite_t z h
            refine j_iconst (pc := 75) (v := (1 : Int32)) hX dX10_isLikeHere_75 (by decide) ?_
            refine j_goto (pc := 76) (tgt := 80) hX dX10_isLikeHere_76 (by decide) ?_
            replace h := Option.some.inj h
            subst h
            exact j_iret (pc := 80) hX hE rfl rfl dX10_isLikeHere_80 (Nat.le_refl 0) (Nat.le_refl 0) ⟨rfl, rfl, rfl⟩
  · replace h := ite_f z h
    refine j_iconst (pc := 15) (v := (0 : Int32)) hX dX10_isLikeHere_15 (by decide) ?_
    replace h := Option.some.inj h
    subst h
    exact j_iret (pc := 16) hX hE rfl rfl dX10_isLikeHere_16 (Nat.le_refl 0) (Nat.le_refl 0) ⟨rfl, rfl, rfl⟩

