set_option maxHeartbeats 4000000 in
set_option maxRecDepth 100000 in
theorem tj_m_putTurn_P197 {X : jX} {d : Nat} {r : jS} {cE : jS} (hX : jOk X RX10 cX10_putTurn 5 d) (hdp : 4 ≤ d) (hE : jEnd X none 0 0 (fun r0 n0 h0 => r0 = none ∧ n0 = jN ∧ h0 = jE (jmix r cE))) : ∀ (v1 : Int32) (v2 : Int32) (v3 : Int32) (s1 : Int32) (s2 : Int32) (c : jS), m_putTurn_P197 v1 v2 v3 s1 s2 c = some ((), cE) → J X 0 0 jN (jE (jmix r c)) [(0, .ref 30), (1, .int v1), (2, .int v2), (3, .int v3)] [.int s2, .int s1, .ref 45] 197 := by
  intro v1 v2 v3 s1 s2 c h
  unfold m_putTurn_P197 at h
  obtain ⟨hg, h⟩ := gd_some h
  obtain ⟨c3, hc, h⟩ := lt_some h
  refine k_iast (pc := 197) (c' := jmix r c3) hX dX10_putTurn_197 rfl hg (jmix_me rfl hc) ?_
  refine j_aload_n (pc := 198) hX dX10_putTurn_198 rfl rfl ?_
  refine j_iload_n (pc := 199) hX dX10_putTurn_199 rfl rfl ?_
  refine j_iload_n (pc := 200) hX dX10_putTurn_200 rfl rfl ?_
  refine j_iload_n (pc := 201) hX dX10_putTurn_201 rfl rfl ?_
  refine j_bipush (pc := 202) (v := (9 : Int32)) hX dX10_putTurn_202 (by decide) ?_
  refine j_icmp_le (pc := 204) (tgt := 214) hX dX10_putTurn_204 (by decide) (fun z => ?_) (fun z => ?_)
  · replace h := ite_t z h
    refine j_iconst (pc := 214) (v := (0 : Int32)) hX dX10_putTurn_214 (by decide) ?_
    obtain ⟨_u, c4, h1, h⟩ := bd_some h
    refine k_callVV (pc := 215) (st := []) hX ln_10_194 dX10_putTurn_215 (t_m_putBody (d := 3) (Nat.le_refl _) h1) rfl rfl rfl (by omega) (Nat.le_of_ble_eq_true rfl) ?_
    refine j_goto (pc := 218) (tgt := 228) hX dX10_putTurn_218 (by decide) ?_
    obtain ⟨_, h⟩ := Prod.mk.inj (Option.some.inj h)
    subst h
    exact j_vret (pc := 228) hX hE dX10_putTurn_228 (Nat.le_refl 0) (Nat.le_refl 0) ⟨rfl, rfl, rfl⟩
  · replace h := ite_f z h
    refine j_iload_n (pc := 207) hX dX10_putTurn_207 rfl rfl ?_
    refine j_bipush (pc := 208) (v := (10 : Int32)) hX dX10_putTurn_208 (by decide) ?_
    refine j_isub (pc := 210) hX dX10_putTurn_210 ?_
    refine j_goto (pc := 211) (tgt := 215) hX dX10_putTurn_211 (by decide) ?_
    obtain ⟨_u, c5, h1, h⟩ := bd_some h
    refine k_callVV (pc := 215) (st := []) hX ln_10_194 dX10_putTurn_215 (t_m_putBody (d := 3) (Nat.le_refl _) h1) rfl rfl rfl (by omega) (Nat.le_of_ble_eq_true rfl) ?_
    refine j_goto (pc := 218) (tgt := 228) hX dX10_putTurn_218 (by decide) ?_
    obtain ⟨_, h⟩ := Prod.mk.inj (Option.some.inj h)
    subst h
    exact j_vret (pc := 228) hX hE dX10_putTurn_228 (Nat.le_refl 0) (Nat.le_refl 0) ⟨rfl, rfl, rfl⟩
set_option maxHeartbeats 4000000 in
set_option maxRecDepth 100000 in
theorem tj_m_putTurn_P168 {X : jX} {d : Nat} {r : jS} {cE : jS} (hX : jOk X RX10 cX10_putTurn 5 d) (hdp : 4 ≤ d) (hE : jEnd X none 0 0 (fun r0 n0 h0 => r0 = none ∧ n0 = jN ∧ h0 = jE (jmix r cE))) : ∀ (v1 : Int32) (v2 : Int32) (v3 : Int32) (v4 : Int32) (c : jS), m_putTurn_P168 v1 v2 v3 v4 c = some ((), cE) → J X 0 0 jN (jE (jmix r c)) [(0, .ref 30), (1, .int v1), (2, .int v2), (3, .int v3), (4, .int v4)] [] 168 := by
  intro v1 v2 v3 v4 c h
  unfold m_putTurn_P168 at h
  refine j_iload (pc := 168) hX dX10_putTurn_168 rfl ?_
  refine j_iconst (pc := 170) (v := (4 : Int32)) hX dX10_putTurn_170 (by decide) ?_
  refine j_icmp_ne (pc := 171) (tgt := 221) hX dX10_putTurn_171 (by decide) (fun z => ?_) (fun z => ?_)
  · replace h := ite_f z h
    refine j_aload_n (pc := 221) hX dX10_putTurn_221 rfl rfl ?_
    refine j_iload_n (pc := 222) hX dX10_putTurn_222 rfl rfl ?_
    refine j_iload_n (pc := 223) hX dX10_putTurn_223 rfl rfl ?_
    refine j_iload_n (pc := 224) hX dX10_putTurn_224 rfl rfl ?_
    obtain ⟨_u, c2, h1, h⟩ := bd_some h
    refine k_callVV (pc := 225) (st := []) hX ln_10_197 dX10_putTurn_225 (t_m_putParts (d := 3) (Nat.le_refl _) h1) rfl rfl rfl (by omega) (Nat.le_of_ble_eq_true rfl) ?_
    obtain ⟨_, h⟩ := Prod.mk.inj (Option.some.inj h)
    subst h
    exact j_vret (pc := 228) hX hE dX10_putTurn_228 (Nat.le_refl 0) (Nat.le_refl 0) ⟨rfl, rfl, rfl⟩
  · replace h := ite_t z h
    refine j_aload_n (pc := 174) hX dX10_putTurn_174 rfl rfl ?_
    refine k_getR (pc := 175) (q := 45) hX fl_10_60 dX10_putTurn_175 rfl rfl ?_
    refine j_iload_n (pc := 178) hX dX10_putTurn_178 rfl rfl ?_
    refine j_iload_n (pc := 179) hX dX10_putTurn_179 rfl rfl ?_
    refine j_iconst (pc := 180) (v := (1 : Int32)) hX dX10_putTurn_180 (by decide) ?_
    refine j_icmp_ne (pc := 181) (tgt := 191) hX dX10_putTurn_181 (by decide) (fun z => ?_) (fun z => ?_)
    · replace h := ite_f z h
      refine j_aload_n (pc := 191) hX dX10_putTurn_191 rfl rfl ?_
      refine k_getR (pc := 192) (q := 45) hX fl_10_60 dX10_putTurn_192 rfl rfl ?_
      refine j_iload_n (pc := 195) hX dX10_putTurn_195 rfl rfl ?_
      obtain ⟨hg, h⟩ := gd_some h
      refine k_iald (pc := 196) (x := (c 45 (v1).toNatClampNeg)) hX dX10_putTurn_196 rfl hg rfl ?_
      refine j_sub (lv' := [(0, .ref 30), (1, .int v1), (2, .int v2), (3, .int v3)]) ⟨rfl, rfl, rfl, rfl, trivial⟩ ?_
      exact tj_m_putTurn_P197 hX hdp hE _ _ _ _ _ _ h
    · replace h := ite_t z h
      refine j_aload_n (pc := 184) hX dX10_putTurn_184 rfl rfl ?_
      refine k_getI (pc := 185) (x := (c 30 22)) hX fl_10_151 dX10_putTurn_185 rfl rfl rfl ?_
      refine j_goto (pc := 188) (tgt := 197) hX dX10_putTurn_188 (by decide) ?_
      refine j_sub (lv' := [(0, .ref 30), (1, .int v1), (2, .int v2), (3, .int v3)]) ⟨rfl, rfl, rfl, rfl, trivial⟩ ?_
      exact tj_m_putTurn_P197 hX hdp hE _ _ _ _ _ _ h
set_option maxHeartbeats 4000000 in
set_option maxRecDepth 100000 in
theorem tj_m_putTurn_P75 {X : jX} {d : Nat} {r : jS} {cE : jS} (hX : jOk X RX10 cX10_putTurn 5 d) (hdp : 4 ≤ d) (hE : jEnd X none 0 0 (fun r0 n0 h0 => r0 = none ∧ n0 = jN ∧ h0 = jE (jmix r cE))) : ∀ (v1 : Int32) (v2 : Int32) (v3 : Int32) (v4 : Int32) (c : jS), m_putTurn_P75 v1 v2 v3 v4 c = some ((), cE) → J X 0 0 jN (jE (jmix r c)) [(0, .ref 30), (1, .int v1), (2, .int v2), (3, .int v3), (4, .int v4)] [] 75 := by
  intro v1 v2 v3 v4 c h
  unfold m_putTurn_P75 at h
  refine j_iload (pc := 75) hX dX10_putTurn_75 rfl ?_
  refine j_iconst (pc := 77) (v := (1 : Int32)) hX dX10_putTurn_77 (by decide) ?_
  refine j_icmp_ne (pc := 78) (tgt := 104) hX dX10_putTurn_78 (by decide) (fun z => ?_) (fun z => ?_)
  · replace h := ite_f z h
    refine j_iload (pc := 104) hX dX10_putTurn_104 rfl ?_
    refine j_iconst (pc := 106) (v := (2 : Int32)) hX dX10_putTurn_106 (by decide) ?_
    refine j_icmp_ne (pc := 107) (tgt := 133) hX dX10_putTurn_107 (by decide) (fun z => ?_) (fun z => ?_)
    · replace h := ite_f z h
      refine j_iload (pc := 133) hX dX10_putTurn_133 rfl ?_
      refine j_iconst (pc := 135) (v := (4 : Int32)) hX dX10_putTurn_135 (by decide) ?_
      refine j_icmp_ne (pc := 136) (tgt := 168) hX dX10_putTurn_136 (by decide) (fun z => ?_) (fun z => ?_)
      · replace h := ite_f z h
        refine j_sub (lv' := [(0, .ref 30), (1, .int v1), (2, .int v2), (3, .int v3), (4, .int v4)]) ⟨rfl, rfl, rfl, rfl, rfl, trivial⟩ ?_
        exact tj_m_putTurn_P168 hX hdp hE _ _ _ _ _ h
      · replace h := ite_t z h
        refine j_iload_n (pc := 139) hX dX10_putTurn_139 rfl rfl ?_
        refine j_if_ne (pc := 140) (tgt := 168) hX dX10_putTurn_140 (by decide) (fun z => ?_) (fun z => ?_)
        · replace h := ite_f z h
          refine j_sub (lv' := [(0, .ref 30), (1, .int v1), (2, .int v2), (3, .int v3), (4, .int v4)]) ⟨rfl, rfl, rfl, rfl, rfl, trivial⟩ ?_
          exact tj_m_putTurn_P168 hX hdp hE _ _ _ _ _ h
        · replace h := ite_t z h
          refine j_aload_n (pc := 143) hX dX10_putTurn_143 rfl rfl ?_
          refine j_aload_n (pc := 144) hX dX10_putTurn_144 rfl rfl ?_
          refine j_iload_n (pc := 145) hX dX10_putTurn_145 rfl rfl ?_
          refine j_iconst (pc := 146) (v := (0 : Int32)) hX dX10_putTurn_146 (by decide) ?_
          obtain ⟨r6, h1, h⟩ := ob_some h
          refine k_callVI (pc := 147) (st := [.ref 30]) hX ln_10_126 dX10_putTurn_147 (t_m_part (d := 0) (Nat.le_refl _) h1) rfl rfl rfl (by omega) (Nat.le_of_ble_eq_true rfl) ?_
          refine j_aload_n (pc := 150) hX dX10_putTurn_150 rfl rfl ?_
          refine k_getR (pc := 151) (q := 48) hX fl_10_69 dX10_putTurn_151 rfl rfl ?_
          refine j_iload_n (pc := 154) hX dX10_putTurn_154 rfl rfl ?_
          obtain ⟨hg, h⟩ := gd_some h
          refine k_iald (pc := 155) (x := (c 48 (v1).toNatClampNeg)) hX dX10_putTurn_155 rfl hg rfl ?_
          refine j_aload_n (pc := 156) hX dX10_putTurn_156 rfl rfl ?_
          refine k_getR (pc := 157) (q := 49) hX fl_10_72 dX10_putTurn_157 rfl rfl ?_
          refine j_iload_n (pc := 160) hX dX10_putTurn_160 rfl rfl ?_
          obtain ⟨hg, h⟩ := gd_some h
          refine k_iald (pc := 161) (x := (c 49 (v1).toNatClampNeg)) hX dX10_putTurn_161 rfl hg rfl ?_
          obtain ⟨_u, c7, h1, h⟩ := bd_some h
          refine k_callVV (pc := 162) (st := []) hX ln_10_184 dX10_putTurn_162 (t_m_pushPut (d := 1) (Nat.le_refl _) h1) rfl rfl rfl (by omega) (Nat.le_of_ble_eq_true rfl) ?_
          refine j_goto (pc := 165) (tgt := 228) hX dX10_putTurn_165 (by decide) ?_
          obtain ⟨_, h⟩ := Prod.mk.inj (Option.some.inj h)
          subst h
          exact j_vret (pc := 228) hX hE dX10_putTurn_228 (Nat.le_refl 0) (Nat.le_refl 0) ⟨rfl, rfl, rfl⟩
    · replace h := ite_t z h
      refine j_aload_n (pc := 110) hX dX10_putTurn_110 rfl rfl ?_
      refine j_iload_n (pc := 111) hX dX10_putTurn_111 rfl rfl ?_
      refine j_iload_n (pc := 112) hX dX10_putTurn_112 rfl rfl ?_
      refine j_iload_n (pc := 113) hX dX10_putTurn_113 rfl rfl ?_
      refine j_bipush (pc := 114) (v := (9 : Int32)) hX dX10_putTurn_114 (by decide) ?_
      refine j_icmp_le (pc := 116) (tgt := 126) hX dX10_putTurn_116 (by decide) (fun z => ?_) (fun z => ?_)
      · replace h := ite_t z h
        refine j_iconst (pc := 126) (v := (0 : Int32)) hX dX10_putTurn_126 (by decide) ?_
        obtain ⟨_u, c8, h1, h⟩ := bd_some h
        refine k_callVV (pc := 127) (st := []) hX ln_10_194 dX10_putTurn_127 (t_m_putBody (d := 3) (Nat.le_refl _) h1) rfl rfl rfl (by omega) (Nat.le_of_ble_eq_true rfl) ?_
        refine j_goto (pc := 130) (tgt := 228) hX dX10_putTurn_130 (by decide) ?_
        obtain ⟨_, h⟩ := Prod.mk.inj (Option.some.inj h)
        subst h
        exact j_vret (pc := 228) hX hE dX10_putTurn_228 (Nat.le_refl 0) (Nat.le_refl 0) ⟨rfl, rfl, rfl⟩
      · replace h := ite_f z h
        refine j_iload_n (pc := 119) hX dX10_putTurn_119 rfl rfl ?_
        refine j_bipush (pc := 120) (v := (10 : Int32)) hX dX10_putTurn_120 (by decide) ?_
        refine j_isub (pc := 122) hX dX10_putTurn_122 ?_
        refine j_goto (pc := 123) (tgt := 127) hX dX10_putTurn_123 (by decide) ?_
        obtain ⟨_u, c9, h1, h⟩ := bd_some h
        refine k_callVV (pc := 127) (st := []) hX ln_10_194 dX10_putTurn_127 (t_m_putBody (d := 3) (Nat.le_refl _) h1) rfl rfl rfl (by omega) (Nat.le_of_ble_eq_true rfl) ?_
        refine j_goto (pc := 130) (tgt := 228) hX dX10_putTurn_130 (by decide) ?_
        obtain ⟨_, h⟩ := Prod.mk.inj (Option.some.inj h)
        subst h
        exact j_vret (pc := 228) hX hE dX10_putTurn_228 (Nat.le_refl 0) (Nat.le_refl 0) ⟨rfl, rfl, rfl⟩
  · replace h := ite_t z h
    refine j_aload_n (pc := 81) hX dX10_putTurn_81 rfl rfl ?_
    refine j_aload_n (pc := 82) hX dX10_putTurn_82 rfl rfl ?_
    refine k_getR (pc := 83) (q := 49) hX fl_10_72 dX10_putTurn_83 rfl rfl ?_
    refine j_iload_n (pc := 86) hX dX10_putTurn_86 rfl rfl ?_
    obtain ⟨hg, h⟩ := gd_some h
    refine k_iald (pc := 87) (x := (c 49 (v1).toNatClampNeg)) hX dX10_putTurn_87 rfl hg rfl ?_
    obtain ⟨c10, hc, h⟩ := lt_some h
    refine k_putI (pc := 88) (c' := jmix r c10) hX pfl_10_151 dX10_putTurn_88 rfl rfl (fun _ => ⟨rfl, rfl⟩) (jmix_me rfl hc) ?_
    refine j_aload_n (pc := 91) hX dX10_putTurn_91 rfl rfl ?_
    refine j_dup (pc := 92) hX dX10_putTurn_92 rfl ?_
    refine k_getI (pc := 93) (x := (c10 30 14)) hX fl_10_145 dX10_putTurn_93 rfl rfl rfl ?_
    refine j_iconst (pc := 96) (v := (1 : Int32)) hX dX10_putTurn_96 (by decide) ?_
    refine j_isub (pc := 97) hX dX10_putTurn_97 ?_
    obtain ⟨c11, hc, h⟩ := lt_some h
    refine k_putI (pc := 98) (c' := jmix r c11) hX pfl_10_145 dX10_putTurn_98 rfl rfl (fun _ => ⟨rfl, rfl⟩) (jmix_me rfl hc) ?_
    refine j_goto (pc := 101) (tgt := 228) hX dX10_putTurn_101 (by decide) ?_
    obtain ⟨_, h⟩ := Prod.mk.inj (Option.some.inj h)
    subst h
    exact j_vret (pc := 228) hX hE dX10_putTurn_228 (Nat.le_refl 0) (Nat.le_refl 0) ⟨rfl, rfl, rfl⟩
set_option maxHeartbeats 4000000 in
set_option maxRecDepth 100000 in
theorem t_m_putTurn {l : Launch} {D : va_G} {G : Nat → ClassId} {d : Nat} (hdp : 4 ≤ d) {c r : jS} {cE : jS} (h : m_putTurn c = some ((), cE)) : jC l D G d M_m_putTurn [.ref 30] (jmix r c) none (jmix r cE) := by
  refine jM_of rfl (Nat.le_of_ble_eq_true rfl) ?_
  intro X hl hD hG _ _ hX hE _
  subst hl hD hG
  unfold m_putTurn at h
  show J X 0 0 jN (jE (jmix r c)) [(0, .ref 30)] [] 0
  refine j_aload_n (pc := 0) hX dX10_putTurn_0 rfl rfl ?_
  refine k_getI (pc := 1) (x := (c 30 14)) hX fl_10_145 dX10_putTurn_1 rfl rfl rfl ?_
  refine j_iconst (pc := 4) (v := (1 : Int32)) hX dX10_putTurn_4 (by decide) ?_
  refine j_isub (pc := 5) hX dX10_putTurn_5 ?_
  refine j_istore_n (pc := 6) hX dX10_putTurn_6 rfl (by decide) (by decide) ?_
  refine j_aload_n (pc := 7) hX dX10_putTurn_7 rfl rfl ?_
  refine k_getR (pc := 8) (q := 43) hX fl_10_54 dX10_putTurn_8 rfl rfl ?_
  refine j_iload_n (pc := 11) hX dX10_putTurn_11 rfl rfl ?_
  obtain ⟨hg, h⟩ := gd_some h
  refine k_iald (pc := 12) (x := (c 43 (((c 30 14) - (1 : Int32))).toNatClampNeg)) hX dX10_putTurn_12 rfl hg rfl ?_
  refine j_istore_n (pc := 13) hX dX10_putTurn_13 rfl (by decide) (by decide) ?_
  refine j_aload_n (pc := 14) hX dX10_putTurn_14 rfl rfl ?_
  refine k_getR (pc := 15) (q := 44) hX fl_10_57 dX10_putTurn_15 rfl rfl ?_
  refine j_iload_n (pc := 18) hX dX10_putTurn_18 rfl rfl ?_
  obtain ⟨hg, h⟩ := gd_some h
  refine k_iald (pc := 19) (x := (c 44 (((c 30 14) - (1 : Int32))).toNatClampNeg)) hX dX10_putTurn_19 rfl hg rfl ?_
  refine j_istore_n (pc := 20) hX dX10_putTurn_20 rfl (by decide) (by decide) ?_
  refine j_aload_n (pc := 21) hX dX10_putTurn_21 rfl rfl ?_
  refine k_getR (pc := 22) (q := 44) hX fl_10_57 dX10_putTurn_22 rfl rfl ?_
  refine j_iload_n (pc := 25) hX dX10_putTurn_25 rfl rfl ?_
  refine j_dup2 (pc := 26) hX dX10_putTurn_26 rfl rfl ?_
  obtain ⟨hg, h⟩ := gd_some h
  refine k_iald (pc := 27) (x := (c 44 (((c 30 14) - (1 : Int32))).toNatClampNeg)) hX dX10_putTurn_27 rfl hg rfl ?_
  refine j_iconst (pc := 28) (v := (1 : Int32)) hX dX10_putTurn_28 (by decide) ?_
  refine j_iadd (pc := 29) hX dX10_putTurn_29 ?_
  obtain ⟨hg, h⟩ := gd_some h
  obtain ⟨c1, hc, h⟩ := lt_some h
  refine k_iast (pc := 30) (c' := jmix r c1) hX dX10_putTurn_30 rfl hg (jmix_me rfl hc) ?_
  refine j_aload_n (pc := 31) hX dX10_putTurn_31 rfl rfl ?_
  refine k_getR (pc := 32) (q := 35) hX fl_10_30 dX10_putTurn_32 rfl rfl ?_
  refine j_iload_n (pc := 35) hX dX10_putTurn_35 rfl rfl ?_
  obtain ⟨hg, h⟩ := gd_some h
  refine k_iald (pc := 36) (x := (c1 35 ((c 43 (((c 30 14) - (1 : Int32))).toNatClampNeg)).toNatClampNeg)) hX dX10_putTurn_36 rfl hg rfl ?_
  refine j_istore (pc := 37) hX dX10_putTurn_37 (by decide) (by decide) ?_
  refine j_iload_n (pc := 39) hX dX10_putTurn_39 rfl rfl ?_
  refine j_if_ne (pc := 40) (tgt := 75) hX dX10_putTurn_40 (by decide) (fun z => ?_) (fun z => ?_)
  · replace h := ite_f z h
    refine j_sub (lv' := [(0, .ref 30), (1, .int ((c 30 14) - (1 : Int32))), (2, .int (c 43 (((c 30 14) - (1 : Int32))).toNatClampNeg)), (3, .int (c 44 (((c 30 14) - (1 : Int32))).toNatClampNeg)), (4, .int (c1 35 ((c 43 (((c 30 14) - (1 : Int32))).toNatClampNeg)).toNatClampNeg))]) ⟨rfl, rfl, rfl, rfl, rfl, trivial⟩ ?_
    exact tj_m_putTurn_P75 hX hdp hE _ _ _ _ _ h
  · replace h := ite_t z h
    refine j_aload_n (pc := 43) hX dX10_putTurn_43 rfl rfl ?_
    refine j_iload_n (pc := 44) hX dX10_putTurn_44 rfl rfl ?_
    refine j_aload_n (pc := 45) hX dX10_putTurn_45 rfl rfl ?_
    refine k_getR (pc := 46) (q := 48) hX fl_10_69 dX10_putTurn_46 rfl rfl ?_
    refine j_iload_n (pc := 49) hX dX10_putTurn_49 rfl rfl ?_
    obtain ⟨hg, h⟩ := gd_some h
    refine k_iald (pc := 50) (x := (c1 48 (((c 30 14) - (1 : Int32))).toNatClampNeg)) hX dX10_putTurn_50 rfl hg rfl ?_
    obtain ⟨r12, h1, h⟩ := ob_some h
    refine k_callVI (pc := 51) (st := []) hX ln_10_141 dX10_putTurn_51 (t_m_isFree (d := 0) (Nat.le_refl _) h1) rfl rfl rfl (by omega) (Nat.le_of_ble_eq_true rfl) ?_
    refine j_if_ne (pc := 54) (tgt := 75) hX dX10_putTurn_54 (by decide) (fun z => ?_) (fun z => ?_)
    · replace h := ite_f z h
      refine j_sub (lv' := [(0, .ref 30), (1, .int ((c 30 14) - (1 : Int32))), (2, .int (c 43 (((c 30 14) - (1 : Int32))).toNatClampNeg)), (3, .int (c 44 (((c 30 14) - (1 : Int32))).toNatClampNeg)), (4, .int (c1 35 ((c 43 (((c 30 14) - (1 : Int32))).toNatClampNeg)).toNatClampNeg))]) ⟨rfl, rfl, rfl, rfl, rfl, trivial⟩ ?_
      exact tj_m_putTurn_P75 hX hdp hE _ _ _ _ _ h
    · replace h := ite_t z h
      refine j_aload_n (pc := 57) hX dX10_putTurn_57 rfl rfl ?_
      refine j_iload_n (pc := 58) hX dX10_putTurn_58 rfl rfl ?_
      obtain ⟨c13, hc, h⟩ := lt_some h
      refine k_putI (pc := 59) (c' := jmix r c13) hX pfl_10_151 dX10_putTurn_59 rfl rfl (fun _ => ⟨rfl, rfl⟩) (jmix_me rfl hc) ?_
      refine j_aload_n (pc := 62) hX dX10_putTurn_62 rfl rfl ?_
      refine j_dup (pc := 63) hX dX10_putTurn_63 rfl ?_
      refine k_getI (pc := 64) (x := (c13 30 14)) hX fl_10_145 dX10_putTurn_64 rfl rfl rfl ?_
      refine j_iconst (pc := 67) (v := (1 : Int32)) hX dX10_putTurn_67 (by decide) ?_
      refine j_isub (pc := 68) hX dX10_putTurn_68 ?_
      obtain ⟨c14, hc, h⟩ := lt_some h
      refine k_putI (pc := 69) (c' := jmix r c14) hX pfl_10_145 dX10_putTurn_69 rfl rfl (fun _ => ⟨rfl, rfl⟩) (jmix_me rfl hc) ?_
      refine j_goto (pc := 72) (tgt := 228) hX dX10_putTurn_72 (by decide) ?_
      obtain ⟨_, h⟩ := Prod.mk.inj (Option.some.inj h)
      subst h
      exact j_vret (pc := 228) hX hE dX10_putTurn_228 (Nat.le_refl 0) (Nat.le_refl 0) ⟨rfl, rfl, rfl⟩

set_option maxHeartbeats 4000000 in
set_option maxRecDepth 100000 in
theorem tj_m_putOf_P46_23 {X : jX} {d : Nat} {r : jS} {vE : Int32} {cE : jS} (hX : jOk X RX10 cX10_putOf 5 d) (hdp : 5 ≤ d) (hE : jEnd X (some .int) 0 0 (fun r0 n0 h0 => r0 = (some (.int vE)) ∧ n0 = jN ∧ h0 = jE (jmix r cE))) {k_23 : Nat} (ih_23 : ∀ (v4 : Int32) (c : jS), lpk (fun s : (Int32 × jS) => m_putOf_S23 s.1 s.2) k_23 (v4, c) = some (vE, cE) → J X 0 0 jN (jE (jmix r c)) [(0, .ref 30), (4, .int v4)] [] 23) : ∀ (v4 : Int32) (c : jS), lq (fun s : (Int32 × jS) => m_putOf_S23 s.1 s.2) k_23 (vE, cE) (m_putOf_P46_23 v4 c) → J X 0 0 jN (jE (jmix r c)) [(0, .ref 30), (4, .int v4)] [] 46 := by
  intro v4 c h
  conv at h => arg 4; unfold m_putOf_P46_23
  refine j_aload_n (pc := 46) hX dX10_putOf_46 rfl rfl ?_
  refine j_aload_n (pc := 47) hX dX10_putOf_47 rfl rfl ?_
  refine k_getI (pc := 48) (x := (c 30 22)) hX fl_10_151 dX10_putOf_48 rfl rfl rfl ?_
  refine j_bipush (pc := 51) (v := (-3 : Int32)) hX dX10_putOf_51 (by decide) ?_
  refine j_icmp_ne (pc := 53) (tgt := 61) hX dX10_putOf_53 (by decide) (fun z => ?_) (fun z => ?_)
  · replace h := lq_f z h
    refine j_aload_n (pc := 61) hX dX10_putOf_61 rfl rfl ?_
    refine k_getI (pc := 62) (x := (c 30 5)) hX fl_10_119 dX10_putOf_62 rfl rfl rfl ?_
    obtain ⟨c4, hc, h⟩ := lq_lt h
    refine k_putI (pc := 65) (c' := jmix r c4) hX pfl_10_119 dX10_putOf_65 rfl rfl (fun _ => ⟨rfl, rfl⟩) (jmix_me rfl hc) ?_
    refine j_aload_n (pc := 68) hX dX10_putOf_68 rfl rfl ?_
    refine k_getI (pc := 69) (x := (c4 30 22)) hX fl_10_151 dX10_putOf_69 rfl rfl rfl ?_
    replace h := lq_r h
    obtain ⟨h, h0⟩ := Prod.mk.inj (Option.some.inj h)
    subst h h0
    exact j_iret (pc := 72) hX hE rfl rfl dX10_putOf_72 (Nat.le_refl 0) (Nat.le_refl 0) ⟨rfl, rfl, rfl⟩
  · replace h := lq_t z h
    refine j_iload (pc := 56) hX dX10_putOf_56 rfl ?_
    refine j_goto (pc := 58) (tgt := 65) hX dX10_putOf_58 (by decide) ?_
    obtain ⟨c5, hc, h⟩ := lq_lt h
    refine k_putI (pc := 65) (c' := jmix r c5) hX pfl_10_119 dX10_putOf_65 rfl rfl (fun _ => ⟨rfl, rfl⟩) (jmix_me rfl hc) ?_
    refine j_aload_n (pc := 68) hX dX10_putOf_68 rfl rfl ?_
    refine k_getI (pc := 69) (x := (c5 30 22)) hX fl_10_151 dX10_putOf_69 rfl rfl rfl ?_
    replace h := lq_r h
    obtain ⟨h, h0⟩ := Prod.mk.inj (Option.some.inj h)
    subst h h0
    exact j_iret (pc := 72) hX hE rfl rfl dX10_putOf_72 (Nat.le_refl 0) (Nat.le_refl 0) ⟨rfl, rfl, rfl⟩
set_option maxHeartbeats 4000000 in
set_option maxRecDepth 100000 in
theorem tl_m_putOf_L23 {X : jX} {d : Nat} {r : jS} {vE : Int32} {cE : jS} (hX : jOk X RX10 cX10_putOf 5 d) (hdp : 5 ≤ d) (hE : jEnd X (some .int) 0 0 (fun r0 n0 h0 => r0 = (some (.int vE)) ∧ n0 = jN ∧ h0 = jE (jmix r cE))) : ∀ (v4 : Int32) (c : jS), m_putOf_L23 v4 c = some (vE, cE) → J X 0 0 jN (jE (jmix r c)) [(0, .ref 30), (4, .int v4)] [] 23 := by
  intro v4 c h
  unfold m_putOf_L23 at h
  replace h := lp_some h
  obtain ⟨k_23, h⟩ := h
  induction k_23 generalizing v4 c with
  | zero => cases h
  | succ k_23 ih_23 =>
    replace h : lq (fun s : (Int32 × jS) => m_putOf_S23 s.1 s.2) k_23 (vE, cE) (m_putOf_S23 v4 c) := lpk_succ (s := (v4, c)) h
    conv at h => arg 4; unfold m_putOf_S23
    refine j_aload_n (pc := 23) hX dX10_putOf_23 rfl rfl ?_
    refine k_getI (pc := 24) (x := (c 30 14)) hX fl_10_145 dX10_putOf_24 rfl rfl rfl ?_
    refine j_if_le (pc := 27) (tgt := 46) hX dX10_putOf_27 (by decide) (fun z => ?_) (fun z => ?_)
    · replace h := lq_t z h
      refine j_sub (lv' := [(0, .ref 30), (4, .int v4)]) ⟨rfl, rfl, trivial⟩ ?_
      exact tj_m_putOf_P46_23 hX hdp hE ih_23 _ _ h
    · replace h := lq_f z h
      refine j_aload_n (pc := 30) hX dX10_putOf_30 rfl rfl ?_
      refine k_getI (pc := 31) (x := (c 30 22)) hX fl_10_151 dX10_putOf_31 rfl rfl rfl ?_
      refine j_bipush (pc := 34) (v := (-3 : Int32)) hX dX10_putOf_34 (by decide) ?_
      refine j_icmp_eq (pc := 36) (tgt := 46) hX dX10_putOf_36 (by decide) (fun z => ?_) (fun z => ?_)
      · replace h := lq_t z h
        refine j_sub (lv' := [(0, .ref 30), (4, .int v4)]) ⟨rfl, rfl, trivial⟩ ?_
        exact tj_m_putOf_P46_23 hX hdp hE ih_23 _ _ h
      · replace h := lq_f z h
        refine j_aload_n (pc := 39) hX dX10_putOf_39 rfl rfl ?_
        obtain ⟨_u, c6, h1, h⟩ := lq_bd h
        refine k_callVV (pc := 40) (st := []) hX ln_10_200 dX10_putOf_40 (t_m_putTurn (d := 4) (Nat.le_refl _) h1) rfl rfl rfl (by omega) (Nat.le_of_ble_eq_true rfl) ?_
        refine j_goto (pc := 43) (tgt := 23) hX dX10_putOf_43 (by decide) ?_
        refine j_sub (lv' := [(0, .ref 30), (4, .int v4)]) ⟨rfl, rfl, trivial⟩ ?_
        exact ih_23 _ _ (lq_l h)
set_option maxHeartbeats 4000000 in
set_option maxRecDepth 100000 in
theorem t_m_putOf {l : Launch} {D : va_G} {G : Nat → ClassId} {d : Nat} (hdp : 5 ≤ d) {c r : jS} {a1 : Int32} {a2 : Int32} {a3 : Int32} {vE : Int32} {cE : jS} (h : m_putOf c a1 a2 a3 = some (vE, cE)) : jC l D G d M_m_putOf [.ref 30, .int a1, .int a2, .int a3] (jmix r c) (some (.int vE)) (jmix r cE) := by
  refine jM_of rfl (Nat.le_of_ble_eq_true rfl) ?_
  intro X hl hD hG _ _ hX hE _
  subst hl hD hG
  unfold m_putOf at h
  show J X 0 0 jN (jE (jmix r c)) [(0, .ref 30), (1, .int a1), (2, .int a2), (3, .int a3)] [] 0
  refine j_aload_n (pc := 0) hX dX10_putOf_0 rfl rfl ?_
  refine k_getI (pc := 1) (x := (c 30 5)) hX fl_10_119 dX10_putOf_1 rfl rfl rfl ?_
  refine j_istore (pc := 4) hX dX10_putOf_4 (by decide) (by decide) ?_
  refine j_aload_n (pc := 6) hX dX10_putOf_6 rfl rfl ?_
  refine j_iconst (pc := 7) (v := (0 : Int32)) hX dX10_putOf_7 (by decide) ?_
  obtain ⟨c1, hc, h⟩ := lt_some h
  refine k_putI (pc := 8) (c' := jmix r c1) hX pfl_10_145 dX10_putOf_8 rfl rfl (fun _ => ⟨rfl, rfl⟩) (jmix_me rfl hc) ?_
  refine j_aload_n (pc := 11) hX dX10_putOf_11 rfl rfl ?_
  refine j_iload_n (pc := 12) hX dX10_putOf_12 rfl rfl ?_
  obtain ⟨c2, hc, h⟩ := lt_some h
  refine k_putI (pc := 13) (c' := jmix r c2) hX pfl_10_151 dX10_putOf_13 rfl rfl (fun _ => ⟨rfl, rfl⟩) (jmix_me rfl hc) ?_
  refine j_aload_n (pc := 16) hX dX10_putOf_16 rfl rfl ?_
  refine j_iload_n (pc := 17) hX dX10_putOf_17 rfl rfl ?_
  refine j_iload_n (pc := 18) hX dX10_putOf_18 rfl rfl ?_
  refine j_iload_n (pc := 19) hX dX10_putOf_19 rfl rfl ?_
  obtain ⟨_u, c3, h1, h⟩ := bd_some h
  refine k_callVV (pc := 20) (st := []) hX ln_10_184 dX10_putOf_20 (t_m_pushPut (d := 1) (Nat.le_refl _) h1) rfl rfl rfl (by omega) (Nat.le_of_ble_eq_true rfl) ?_
  refine j_sub (lv' := [(0, .ref 30), (4, .int (c 30 5))]) ⟨rfl, rfl, trivial⟩ ?_
  exact tl_m_putOf_L23 hX hdp hE _ _ h

set_option maxHeartbeats 4000000 in
set_option maxRecDepth 100000 in
theorem t_m_put {l : Launch} {D : va_G} {G : Nat → ClassId} {d : Nat} (hdp : 6 ≤ d) {c r : jS} {a1 : Int32} {a2 : Int32} {a3 : Int32} {vE : Int32} {cE : jS} (h : m_put c a1 a2 a3 = some (vE, cE)) : jC l D G d M_m_put [.ref 30, .int a1, .int a2, .int a3] (jmix r c) (some (.int vE)) (jmix r cE) := by
  refine jM_of rfl (Nat.le_of_ble_eq_true rfl) ?_
  intro X hl hD hG _ _ hX hE _
  subst hl hD hG
  unfold m_put at h
  show J X 0 0 jN (jE (jmix r c)) [(0, .ref 30), (1, .int a1), (2, .int a2), (3, .int a3)] [] 0
  refine j_aload_n (pc := 0) hX dX10_put_0 rfl rfl ?_
  refine j_iload_n (pc := 1) hX dX10_put_1 rfl rfl ?_
  obtain ⟨r1, h1, h⟩ := ob_some h
  refine k_callVI (pc := 2) (st := []) hX ln_10_136 dX10_put_2 (t_m_isTerm (d := 1) (Nat.le_refl _) h1) rfl rfl rfl (by omega) (Nat.le_of_ble_eq_true rfl) ?_
  refine j_if_eq (pc := 5) (tgt := 33) hX dX10_put_5 (by decide) (fun z => ?_) (fun z => ?_)
  · replace h := ite_t z h
    refine j_iconst (pc := 33) (v := (-1 : Int32)) hX dX10_put_33 (by decide) ?_
    obtain ⟨h, h0⟩ := Prod.mk.inj (Option.some.inj h)
    subst h h0
    exact j_iret (pc := 34) hX hE rfl rfl dX10_put_34 (Nat.le_refl 0) (Nat.le_refl 0) ⟨rfl, rfl, rfl⟩
  · replace h := ite_f z h
    refine j_iload_n (pc := 8) hX dX10_put_8 rfl rfl ?_
    obtain ⟨r2, h1, h⟩ := ob_some h
    refine k_callSI (pc := 9) (st := []) hX ln_10_116 dX10_put_9 (t_m_isLetter (d := 1) (Nat.le_refl _) h1) rfl rfl (by omega) (Nat.le_of_ble_eq_true rfl) ?_
    refine j_if_eq (pc := 12) (tgt := 33) hX dX10_put_12 (by decide) (fun z => ?_) (fun z => ?_)
    · replace h := ite_t z h
      refine j_iconst (pc := 33) (v := (-1 : Int32)) hX dX10_put_33 (by decide) ?_
      obtain ⟨h, h0⟩ := Prod.mk.inj (Option.some.inj h)
      subst h h0
      exact j_iret (pc := 34) hX hE rfl rfl dX10_put_34 (Nat.le_refl 0) (Nat.le_refl 0) ⟨rfl, rfl, rfl⟩
    · replace h := ite_f z h
      refine j_aload_n (pc := 15) hX dX10_put_15 rfl rfl ?_
      refine j_iload_n (pc := 16) hX dX10_put_16 rfl rfl ?_
      obtain ⟨r3, h1, h⟩ := ob_some h
      refine k_callVI (pc := 17) (st := []) hX ln_10_136 dX10_put_17 (t_m_isTerm (d := 1) (Nat.le_refl _) h1) rfl rfl rfl (by omega) (Nat.le_of_ble_eq_true rfl) ?_
      refine j_if_eq (pc := 20) (tgt := 33) hX dX10_put_20 (by decide) (fun z => ?_) (fun z => ?_)
      · replace h := ite_t z h
        refine j_iconst (pc := 33) (v := (-1 : Int32)) hX dX10_put_33 (by decide) ?_
        obtain ⟨h, h0⟩ := Prod.mk.inj (Option.some.inj h)
        subst h h0
        exact j_iret (pc := 34) hX hE rfl rfl dX10_put_34 (Nat.le_refl 0) (Nat.le_refl 0) ⟨rfl, rfl, rfl⟩
      · replace h := ite_f z h
        refine j_aload_n (pc := 23) hX dX10_put_23 rfl rfl ?_
        refine j_iload_n (pc := 24) hX dX10_put_24 rfl rfl ?_
        refine j_iload_n (pc := 25) hX dX10_put_25 rfl rfl ?_
        refine j_iload_n (pc := 26) hX dX10_put_26 rfl rfl ?_
        obtain ⟨r4, c5, h1, h⟩ := bd_some h
        refine k_callVI (pc := 27) (st := []) hX ln_10_203 dX10_put_27 (t_m_putOf (d := 5) (Nat.le_refl _) h1) rfl rfl rfl (by omega) (Nat.le_of_ble_eq_true rfl) ?_
        refine j_goto (pc := 30) (tgt := 34) hX dX10_put_30 (by decide) ?_
        obtain ⟨h, h0⟩ := Prod.mk.inj (Option.some.inj h)
        subst h h0
        exact j_iret (pc := 34) hX hE rfl rfl dX10_put_34 (Nat.le_refl 0) (Nat.le_refl 0) ⟨rfl, rfl, rfl⟩

set_option maxHeartbeats 4000000 in
set_option maxRecDepth 100000 in
theorem t_m_partToStep {l : Launch} {D : va_G} {G : Nat → ClassId} {d : Nat} (hdp : 1 ≤ d) {c r : jS} {a1 : Int32} {vE : Int32} (h : m_partToStep c a1 = some vE) : jC l D G d M_m_partToStep [.ref 30, .int a1] (jmix r c) (some (.int vE)) (jmix r c) := by
  refine jM_of rfl (Nat.le_of_ble_eq_true rfl) ?_
  intro X hl hD hG _ _ hX hE _
  subst hl hD hG
  unfold m_partToStep at h
  show J X 0 0 jN (jE (jmix r c)) [(0, .ref 30), (1, .int a1)] [] 0
  refine j_aload_n (pc := 0) hX dX10_partToStep_0 rfl rfl ?_
  refine k_getR (pc := 1) (q := 35) hX fl_10_30 dX10_partToStep_1 rfl rfl ?_
  refine j_iload_n (pc := 4) hX dX10_partToStep_4 rfl rfl ?_
  obtain ⟨hg, h⟩ := gd_some h
  refine k_iald (pc := 5) (x := (c 35 (a1).toNatClampNeg)) hX dX10_partToStep_5 rfl hg rfl ?_
  by_cases z3 : (c 35 (a1).toNatClampNeg) = 3
  · replace h := ite_t z3 h
    refine j_tabEq (pc := 6) (tgt := 36) 3 hX dX10_partToStep_6 z3 (by decide) (by decide) rfl (by decide) ?_
    refine j_aload_n (pc := 36) hX dX10_partToStep_36 rfl rfl ?_
    refine k_getR (pc := 37) (q := 35) hX fl_10_30 dX10_partToStep_37 rfl rfl ?_
    refine j_aload_n (pc := 40) hX dX10_partToStep_40 rfl rfl ?_
    refine j_iload_n (pc := 41) hX dX10_partToStep_41 rfl rfl ?_
    refine j_iconst (pc := 42) (v := (0 : Int32)) hX dX10_partToStep_42 (by decide) ?_
    obtain ⟨r1, h1, h⟩ := ob_some h
    refine k_callVI (pc := 43) (st := [.ref 35]) hX ln_10_126 dX10_partToStep_43 (t_m_part (d := 0) (Nat.le_refl _) h1) rfl rfl rfl (by omega) (Nat.le_of_ble_eq_true rfl) ?_
    obtain ⟨hg, h⟩ := gd_some h
    refine k_iald (pc := 46) (x := (c 35 (r1).toNatClampNeg)) hX dX10_partToStep_46 rfl hg rfl ?_
    refine j_iconst (pc := 47) (v := (2 : Int32)) hX dX10_partToStep_47 (by decide) ?_
    refine j_icmp_ne (pc := 48) (tgt := 56) hX dX10_partToStep_48 (by decide) (fun z => ?_) (fun z => ?_)
    · replace h := ite_f z h
      refine j_iconst (pc := 56) (v := (0 : Int32)) hX dX10_partToStep_56 (by decide) ?_
      replace h := Option.some.inj h
      subst h
      exact j_iret (pc := 57) hX hE rfl rfl dX10_partToStep_57 (Nat.le_refl 0) (Nat.le_refl 0) ⟨rfl, rfl, rfl⟩
    · replace h := ite_t z h
      refine j_bipush (pc := 51) (v := (-2 : Int32)) hX dX10_partToStep_51 (by decide) ?_
      refine j_goto (pc := 53) (tgt := 57) hX dX10_partToStep_53 (by decide) ?_
      replace h := Option.some.inj h
      subst h
      exact j_iret (pc := 57) hX hE rfl rfl dX10_partToStep_57 (Nat.le_refl 0) (Nat.le_refl 0) ⟨rfl, rfl, rfl⟩
  replace h := ite_f z3 h
  by_cases z5 : (c 35 (a1).toNatClampNeg) = 5
  · replace h := ite_t z5 h
    refine j_tabEq (pc := 6) (tgt := 58) 5 hX dX10_partToStep_6 z5 (by decide) (by decide) rfl (by decide) ?_
    refine j_aload_n (pc := 58) hX dX10_partToStep_58 rfl rfl ?_
    refine k_getR (pc := 59) (q := 35) hX fl_10_30 dX10_partToStep_59 rfl rfl ?_
    refine j_aload_n (pc := 62) hX dX10_partToStep_62 rfl rfl ?_
    refine j_iload_n (pc := 63) hX dX10_partToStep_63 rfl rfl ?_
    refine j_iconst (pc := 64) (v := (0 : Int32)) hX dX10_partToStep_64 (by decide) ?_
    obtain ⟨r2, h1, h⟩ := ob_some h
    refine k_callVI (pc := 65) (st := [.ref 35]) hX ln_10_126 dX10_partToStep_65 (t_m_part (d := 0) (Nat.le_refl _) h1) rfl rfl rfl (by omega) (Nat.le_of_ble_eq_true rfl) ?_
    obtain ⟨hg, h⟩ := gd_some h
    refine k_iald (pc := 68) (x := (c 35 (r2).toNatClampNeg)) hX dX10_partToStep_68 rfl hg rfl ?_
    refine j_if_eq (pc := 69) (tgt := 76) hX dX10_partToStep_69 (by decide) (fun z => ?_) (fun z => ?_)
    · replace h := ite_t z h
      refine j_aload_n (pc := 76) hX dX10_partToStep_76 rfl rfl ?_
      refine k_getR (pc := 77) (q := 35) hX fl_10_30 dX10_partToStep_77 rfl rfl ?_
      refine j_aload_n (pc := 80) hX dX10_partToStep_80 rfl rfl ?_
      refine j_iload_n (pc := 81) hX dX10_partToStep_81 rfl rfl ?_
      refine j_iconst (pc := 82) (v := (1 : Int32)) hX dX10_partToStep_82 (by decide) ?_
      obtain ⟨r3, h1, h⟩ := ob_some h
      refine k_callVI (pc := 83) (st := [.ref 35]) hX ln_10_126 dX10_partToStep_83 (t_m_part (d := 0) (Nat.le_refl _) h1) rfl rfl rfl (by omega) (Nat.le_of_ble_eq_true rfl) ?_
      obtain ⟨hg, h⟩ := gd_some h
      refine k_iald (pc := 86) (x := (c 35 (r3).toNatClampNeg)) hX dX10_partToStep_86 rfl hg rfl ?_
      refine j_if_eq (pc := 87) (tgt := 94) hX dX10_partToStep_87 (by decide) (fun z => ?_) (fun z => ?_)
      · replace h := ite_t z h
        refine j_bipush (pc := 94) (v := (-2 : Int32)) hX dX10_partToStep_94 (by decide) ?_
        replace h := Option.some.inj h
        subst h
        exact j_iret (pc := 96) hX hE rfl rfl dX10_partToStep_96 (Nat.le_refl 0) (Nat.le_refl 0) ⟨rfl, rfl, rfl⟩
      · replace h := ite_f z h
        refine j_iconst (pc := 90) (v := (1 : Int32)) hX dX10_partToStep_90 (by decide) ?_
        refine j_goto (pc := 91) (tgt := 96) hX dX10_partToStep_91 (by decide) ?_
        replace h := Option.some.inj h
        subst h
        exact j_iret (pc := 96) hX hE rfl rfl dX10_partToStep_96 (Nat.le_refl 0) (Nat.le_refl 0) ⟨rfl, rfl, rfl⟩
    · replace h := ite_f z h
      refine j_iconst (pc := 72) (v := (0 : Int32)) hX dX10_partToStep_72 (by decide) ?_
      refine j_goto (pc := 73) (tgt := 96) hX dX10_partToStep_73 (by decide) ?_
      replace h := Option.some.inj h
      subst h
      exact j_iret (pc := 96) hX hE rfl rfl dX10_partToStep_96 (Nat.le_refl 0) (Nat.le_refl 0) ⟨rfl, rfl, rfl⟩
  replace h := ite_f z5 h
  by_cases z6 : (c 35 (a1).toNatClampNeg) = 6
  · replace h := ite_t z6 h
    refine j_tabEq (pc := 6) (tgt := 97) 6 hX dX10_partToStep_6 z6 (by decide) (by decide) rfl (by decide) ?_
    refine j_aload_n (pc := 97) hX dX10_partToStep_97 rfl rfl ?_
    refine k_getR (pc := 98) (q := 35) hX fl_10_30 dX10_partToStep_98 rfl rfl ?_
    refine j_aload_n (pc := 101) hX dX10_partToStep_101 rfl rfl ?_
    refine j_iload_n (pc := 102) hX dX10_partToStep_102 rfl rfl ?_
    refine j_iconst (pc := 103) (v := (0 : Int32)) hX dX10_partToStep_103 (by decide) ?_
    obtain ⟨r4, h1, h⟩ := ob_some h
    refine k_callVI (pc := 104) (st := [.ref 35]) hX ln_10_126 dX10_partToStep_104 (t_m_part (d := 0) (Nat.le_refl _) h1) rfl rfl rfl (by omega) (Nat.le_of_ble_eq_true rfl) ?_
    obtain ⟨hg, h⟩ := gd_some h
    refine k_iald (pc := 107) (x := (c 35 (r4).toNatClampNeg)) hX dX10_partToStep_107 rfl hg rfl ?_
    refine j_if_eq (pc := 108) (tgt := 115) hX dX10_partToStep_108 (by decide) (fun z => ?_) (fun z => ?_)
    · replace h := ite_t z h
      refine j_bipush (pc := 115) (v := (-2 : Int32)) hX dX10_partToStep_115 (by decide) ?_
      replace h := Option.some.inj h
      subst h
      exact j_iret (pc := 117) hX hE rfl rfl dX10_partToStep_117 (Nat.le_refl 0) (Nat.le_refl 0) ⟨rfl, rfl, rfl⟩
    · replace h := ite_f z h
      refine j_iconst (pc := 111) (v := (0 : Int32)) hX dX10_partToStep_111 (by decide) ?_
      refine j_goto (pc := 112) (tgt := 117) hX dX10_partToStep_112 (by decide) ?_
      replace h := Option.some.inj h
      subst h
      exact j_iret (pc := 117) hX hE rfl rfl dX10_partToStep_117 (Nat.le_refl 0) (Nat.le_refl 0) ⟨rfl, rfl, rfl⟩
  replace h := ite_f z6 h
  by_cases z4 : (c 35 (a1).toNatClampNeg) = 4
  · refine j_tabEq (pc := 6) (tgt := 118) 4 hX dX10_partToStep_6 z4 (by decide) (by decide) rfl (by decide) ?_
    refine j_bipush (pc := 118) (v := (-2 : Int32)) hX dX10_partToStep_118 (by decide) ?_
    replace h := Option.some.inj h
    subst h
    exact j_iret (pc := 120) hX hE rfl rfl dX10_partToStep_120 (Nat.le_refl 0) (Nat.le_refl 0) ⟨rfl, rfl, rfl⟩
  refine j_tabOut (pc := 6) (tgt := 118) hX dX10_partToStep_6 (by have yz3 := lv_neT (a := 3) z3 (by decide); have yz5 := lv_neT (a := 5) z5 (by decide); have yz6 := lv_neT (a := 6) z6 (by decide); have yz4 := lv_neT (a := 4) z4 (by decide); omega) (by decide) ?_
  refine j_bipush (pc := 118) (v := (-2 : Int32)) hX dX10_partToStep_118 (by decide) ?_
  replace h := Option.some.inj h
  subst h
  exact j_iret (pc := 120) hX hE rfl rfl dX10_partToStep_120 (Nat.le_refl 0) (Nat.le_refl 0) ⟨rfl, rfl, rfl⟩

set_option maxHeartbeats 4000000 in
set_option maxRecDepth 100000 in
theorem t_m_stepHere {l : Launch} {D : va_G} {G : Nat → ClassId} {d : Nat} (hdp : 6 ≤ d) {c r : jS} {a1 : Int32} {vE : Int32} {cE : jS} (h : m_stepHere c a1 = some (vE, cE)) : jC l D G d M_m_stepHere [.ref 30, .int a1] (jmix r c) (some (.int vE)) (jmix r cE) := by
  refine jM_of rfl (Nat.le_of_ble_eq_true rfl) ?_
  intro X hl hD hG _ _ hX hE _
  subst hl hD hG
  unfold m_stepHere at h
  show J X 0 0 jN (jE (jmix r c)) [(0, .ref 30), (1, .int a1)] [] 0
  refine j_aload_n (pc := 0) hX dX10_stepHere_0 rfl rfl ?_
  refine j_iload_n (pc := 1) hX dX10_stepHere_1 rfl rfl ?_
  refine j_iconst (pc := 2) (v := (0 : Int32)) hX dX10_stepHere_2 (by decide) ?_
  obtain ⟨r1, h1, h⟩ := ob_some h
  refine k_callVI (pc := 3) (st := []) hX ln_10_126 dX10_stepHere_3 (t_m_part (d := 0) (Nat.le_refl _) h1) rfl rfl rfl (by omega) (Nat.le_of_ble_eq_true rfl) ?_
  refine j_istore_n (pc := 6) hX dX10_stepHere_6 rfl (by decide) (by decide) ?_
  refine j_aload_n (pc := 7) hX dX10_stepHere_7 rfl rfl ?_
  refine k_getR (pc := 8) (q := 35) hX fl_10_30 dX10_stepHere_8 rfl rfl ?_
  refine j_iload_n (pc := 11) hX dX10_stepHere_11 rfl rfl ?_
  obtain ⟨hg, h⟩ := gd_some h
  refine k_iald (pc := 12) (x := (c 35 (a1).toNatClampNeg)) hX dX10_stepHere_12 rfl hg rfl ?_
  by_cases z3 : (c 35 (a1).toNatClampNeg) = 3
  · replace h := ite_t z3 h
    refine j_tabEq (pc := 13) (tgt := 44) 3 hX dX10_stepHere_13 z3 (by decide) (by decide) rfl (by decide) ?_
    refine j_aload_n (pc := 44) hX dX10_stepHere_44 rfl rfl ?_
    refine j_aload_n (pc := 45) hX dX10_stepHere_45 rfl rfl ?_
    refine j_iload_n (pc := 46) hX dX10_stepHere_46 rfl rfl ?_
    refine j_iconst (pc := 47) (v := (0 : Int32)) hX dX10_stepHere_47 (by decide) ?_
    obtain ⟨r2, h1, h⟩ := ob_some h
    refine k_callVI (pc := 48) (st := [.ref 30]) hX ln_10_126 dX10_stepHere_48 (t_m_part (d := 0) (Nat.le_refl _) h1) rfl rfl rfl (by omega) (Nat.le_of_ble_eq_true rfl) ?_
    refine j_aload_n (pc := 51) hX dX10_stepHere_51 rfl rfl ?_
    refine k_getR (pc := 52) (q := 37) hX fl_10_36 dX10_stepHere_52 rfl rfl ?_
    refine j_iload_n (pc := 55) hX dX10_stepHere_55 rfl rfl ?_
    obtain ⟨hg, h⟩ := gd_some h
    refine k_iald (pc := 56) (x := (c 37 (r1).toNatClampNeg)) hX dX10_stepHere_56 rfl hg rfl ?_
    refine j_aload_n (pc := 57) hX dX10_stepHere_57 rfl rfl ?_
    refine j_iload_n (pc := 58) hX dX10_stepHere_58 rfl rfl ?_
    refine j_iconst (pc := 59) (v := (1 : Int32)) hX dX10_stepHere_59 (by decide) ?_
    obtain ⟨r3, h1, h⟩ := ob_some h
    refine k_callVI (pc := 60) (st := [.int (c 37 (r1).toNatClampNeg), .int r2, .ref 30]) hX ln_10_126 dX10_stepHere_60 (t_m_part (d := 0) (Nat.le_refl _) h1) rfl rfl rfl (by omega) (Nat.le_of_ble_eq_true rfl) ?_
    obtain ⟨r4, c5, h1, h⟩ := bd_some h
    refine k_callVI (pc := 63) (st := []) hX ln_10_203 dX10_stepHere_63 (t_m_putOf (d := 5) (Nat.le_refl _) h1) rfl rfl rfl (by omega) (Nat.le_of_ble_eq_true rfl) ?_
    obtain ⟨h, h0⟩ := Prod.mk.inj (Option.some.inj h)
    subst h h0
    exact j_iret (pc := 66) hX hE rfl rfl dX10_stepHere_66 (Nat.le_refl 0) (Nat.le_refl 0) ⟨rfl, rfl, rfl⟩
  replace h := ite_f z3 h
  by_cases z4 : (c 35 (a1).toNatClampNeg) = 4
  · replace h := ite_t z4 h
    refine j_tabEq (pc := 13) (tgt := 67) 4 hX dX10_stepHere_13 z4 (by decide) (by decide) rfl (by decide) ?_
    refine j_aload_n (pc := 67) hX dX10_stepHere_67 rfl rfl ?_
    refine j_aload_n (pc := 68) hX dX10_stepHere_68 rfl rfl ?_
    refine j_iload_n (pc := 69) hX dX10_stepHere_69 rfl rfl ?_
    refine j_iconst (pc := 70) (v := (1 : Int32)) hX dX10_stepHere_70 (by decide) ?_
    obtain ⟨r6, h1, h⟩ := ob_some h
    refine k_callVI (pc := 71) (st := [.ref 30]) hX ln_10_126 dX10_stepHere_71 (t_m_part (d := 0) (Nat.le_refl _) h1) rfl rfl rfl (by omega) (Nat.le_of_ble_eq_true rfl) ?_
    refine j_aload_n (pc := 74) hX dX10_stepHere_74 rfl rfl ?_
    refine k_getR (pc := 75) (q := 37) hX fl_10_36 dX10_stepHere_75 rfl rfl ?_
    refine j_iload_n (pc := 78) hX dX10_stepHere_78 rfl rfl ?_
    obtain ⟨hg, h⟩ := gd_some h
    refine k_iald (pc := 79) (x := (c 37 (a1).toNatClampNeg)) hX dX10_stepHere_79 rfl hg rfl ?_
    refine j_iload_n (pc := 80) hX dX10_stepHere_80 rfl rfl ?_
    obtain ⟨r7, c8, h1, h⟩ := bd_some h
    refine k_callVI (pc := 81) (st := []) hX ln_10_203 dX10_stepHere_81 (t_m_putOf (d := 5) (Nat.le_refl _) h1) rfl rfl rfl (by omega) (Nat.le_of_ble_eq_true rfl) ?_
    obtain ⟨h, h0⟩ := Prod.mk.inj (Option.some.inj h)
    subst h h0
    exact j_iret (pc := 84) hX hE rfl rfl dX10_stepHere_84 (Nat.le_refl 0) (Nat.le_refl 0) ⟨rfl, rfl, rfl⟩
  replace h := ite_f z4 h
  by_cases z5 : (c 35 (a1).toNatClampNeg) = 5
  · replace h := ite_t z5 h
    refine j_tabEq (pc := 13) (tgt := 85) 5 hX dX10_stepHere_13 z5 (by decide) (by decide) rfl (by decide) ?_
    refine j_aload_n (pc := 85) hX dX10_stepHere_85 rfl rfl ?_
    refine j_iconst (pc := 86) (v := (0 : Int32)) hX dX10_stepHere_86 (by decide) ?_
    refine j_aload_n (pc := 87) hX dX10_stepHere_87 rfl rfl ?_
    refine k_getR (pc := 88) (q := 36) hX fl_10_33 dX10_stepHere_88 rfl rfl ?_
    refine j_iload_n (pc := 91) hX dX10_stepHere_91 rfl rfl ?_
    obtain ⟨hg, h⟩ := gd_some h
    refine k_iald (pc := 92) (x := (c 36 (r1).toNatClampNeg)) hX dX10_stepHere_92 rfl hg rfl ?_
    refine j_aload_n (pc := 93) hX dX10_stepHere_93 rfl rfl ?_
    refine k_getR (pc := 94) (q := 36) hX fl_10_33 dX10_stepHere_94 rfl rfl ?_
    refine j_aload_n (pc := 97) hX dX10_stepHere_97 rfl rfl ?_
    refine j_iload_n (pc := 98) hX dX10_stepHere_98 rfl rfl ?_
    refine j_iconst (pc := 99) (v := (1 : Int32)) hX dX10_stepHere_99 (by decide) ?_
    obtain ⟨r9, h1, h⟩ := ob_some h
    refine k_callVI (pc := 100) (st := [.ref 36, .int (c 36 (r1).toNatClampNeg), .int (0 : Int32), .ref 30]) hX ln_10_126 dX10_stepHere_100 (t_m_part (d := 0) (Nat.le_refl _) h1) rfl rfl rfl (by omega) (Nat.le_of_ble_eq_true rfl) ?_
    obtain ⟨hg, h⟩ := gd_some h
    refine k_iald (pc := 103) (x := (c 36 (r9).toNatClampNeg)) hX dX10_stepHere_103 rfl hg rfl ?_
    refine j_iadd (pc := 104) hX dX10_stepHere_104 ?_
    refine j_bipush (pc := 105) (v := (-2 : Int32)) hX dX10_stepHere_105 (by decide) ?_
    refine j_bipush (pc := 107) (v := (-2 : Int32)) hX dX10_stepHere_107 (by decide) ?_
    refine j_bipush (pc := 109) (v := (-2 : Int32)) hX dX10_stepHere_109 (by decide) ?_
    refine j_bipush (pc := 111) (v := (-2 : Int32)) hX dX10_stepHere_111 (by decide) ?_
    refine j_bipush (pc := 113) (v := (-2 : Int32)) hX dX10_stepHere_113 (by decide) ?_
    obtain ⟨r10, c11, h1, h⟩ := bd_some h
    refine k_callVI (pc := 115) (st := []) hX ln_10_132 dX10_stepHere_115 (t_m_make (d := 1) (Nat.le_refl _) h1) rfl rfl rfl (by omega) (Nat.le_of_ble_eq_true rfl) ?_
    obtain ⟨h, h0⟩ := Prod.mk.inj (Option.some.inj h)
    subst h h0
    exact j_iret (pc := 118) hX hE rfl rfl dX10_stepHere_118 (Nat.le_refl 0) (Nat.le_refl 0) ⟨rfl, rfl, rfl⟩
  replace h := ite_f z5 h
  by_cases z6 : (c 35 (a1).toNatClampNeg) = 6
  · replace h := ite_t z6 h
    refine j_tabEq (pc := 13) (tgt := 119) 6 hX dX10_stepHere_13 z6 (by decide) (by decide) rfl (by decide) ?_
    refine j_aload_n (pc := 119) hX dX10_stepHere_119 rfl rfl ?_
    refine j_iload_n (pc := 120) hX dX10_stepHere_120 rfl rfl ?_
    refine j_aload_n (pc := 121) hX dX10_stepHere_121 rfl rfl ?_
    refine k_getR (pc := 122) (q := 36) hX fl_10_33 dX10_stepHere_122 rfl rfl ?_
    refine j_iload_n (pc := 125) hX dX10_stepHere_125 rfl rfl ?_
    obtain ⟨hg, h⟩ := gd_some h
    refine k_iald (pc := 126) (x := (c 36 (r1).toNatClampNeg)) hX dX10_stepHere_126 rfl hg rfl ?_
    refine j_if_eq (pc := 127) (tgt := 134) hX dX10_stepHere_127 (by decide) (fun z => ?_) (fun z => ?_)
    · replace h := ite_t z h
      refine j_iconst (pc := 134) (v := (2 : Int32)) hX dX10_stepHere_134 (by decide) ?_
      obtain ⟨r12, h1, h⟩ := ob_some h
      refine k_callVI (pc := 135) (st := []) hX ln_10_126 dX10_stepHere_135 (t_m_part (d := 0) (Nat.le_refl _) h1) rfl rfl rfl (by omega) (Nat.le_of_ble_eq_true rfl) ?_
      obtain ⟨h, h0⟩ := Prod.mk.inj (Option.some.inj h)
      subst h h0
      exact j_iret (pc := 138) hX hE rfl rfl dX10_stepHere_138 (Nat.le_refl 0) (Nat.le_refl 0) ⟨rfl, rfl, rfl⟩
    · replace h := ite_f z h
      refine j_iconst (pc := 130) (v := (1 : Int32)) hX dX10_stepHere_130 (by decide) ?_
      refine j_goto (pc := 131) (tgt := 135) hX dX10_stepHere_131 (by decide) ?_
      obtain ⟨r13, h1, h⟩ := ob_some h
      refine k_callVI (pc := 135) (st := []) hX ln_10_126 dX10_stepHere_135 (t_m_part (d := 0) (Nat.le_refl _) h1) rfl rfl rfl (by omega) (Nat.le_of_ble_eq_true rfl) ?_
      obtain ⟨h, h0⟩ := Prod.mk.inj (Option.some.inj h)
      subst h h0
      exact j_iret (pc := 138) hX hE rfl rfl dX10_stepHere_138 (Nat.le_refl 0) (Nat.le_refl 0) ⟨rfl, rfl, rfl⟩
  replace h := ite_f z6 h
  refine j_tabOut (pc := 13) (tgt := 139) hX dX10_stepHere_13 (by have yz3 := lv_neT (a := 3) z3 (by decide); have yz4 := lv_neT (a := 4) z4 (by decide); have yz5 := lv_neT (a := 5) z5 (by decide); have yz6 := lv_neT (a := 6) z6 (by decide); omega) (by decide) ?_
  refine j_bipush (pc := 139) (v := (-2 : Int32)) hX dX10_stepHere_139 (by decide) ?_
  obtain ⟨h, h0⟩ := Prod.mk.inj (Option.some.inj h)
  subst h h0
  exact j_iret (pc := 141) hX hE rfl rfl dX10_stepHere_141 (Nat.le_refl 0) (Nat.le_refl 0) ⟨rfl, rfl, rfl⟩

set_option maxHeartbeats 4000000 in
set_option maxRecDepth 100000 in
theorem tj_m_stepOf_P174_73 {X : jX} {d : Nat} {r : jS} {vE : Int32} {cE : jS} (hX : jOk X RX10 cX10_stepOf 7 d) (hdp : 7 ≤ d) (hE : jEnd X (some .int) 0 0 (fun r0 n0 h0 => r0 = (some (.int vE)) ∧ n0 = jN ∧ h0 = jE (jmix r cE))) {k_73 : Nat} (ih_73 : ∀ (v2 : Int32) (v3 : Int32) (v6 : Int32) (c : jS), lpk (fun s : (Int32 × Int32 × Int32 × jS) => m_stepOf_S73 s.1 s.2.1 s.2.2.1 s.2.2.2) k_73 (v2, v3, v6, c) = some (vE, cE) → J X 0 0 jN (jE (jmix r c)) [(0, .ref 30), (2, .int v2), (3, .int v3), (6, .int v6)] [] 73) : ∀ (v2 : Int32) (v6 : Int32) (c : jS), lq (fun s : (Int32 × Int32 × Int32 × jS) => m_stepOf_S73 s.1 s.2.1 s.2.2.1 s.2.2.2) k_73 (vE, cE) (m_stepOf_P174_73 v2 v6 c) → J X 0 0 jN (jE (jmix r c)) [(0, .ref 30), (2, .int v2), (6, .int v6)] [] 174 := by
  intro v2 v6 c h
  conv at h => arg 4; unfold m_stepOf_P174_73
  refine j_aload_n (pc := 174) hX dX10_stepOf_174 rfl rfl ?_
  refine j_iload (pc := 175) hX dX10_stepOf_175 rfl ?_
  refine j_if_ge (pc := 177) (tgt := 184) hX dX10_stepOf_177 (by decide) (fun z => ?_) (fun z => ?_)
  · replace h := lq_t z h
    refine j_aload_n (pc := 184) hX dX10_stepOf_184 rfl rfl ?_
    refine k_getI (pc := 185) (x := (c 30 5)) hX fl_10_119 dX10_stepOf_185 rfl rfl rfl ?_
    obtain ⟨c4, hc, h⟩ := lq_lt h
    refine k_putI (pc := 188) (c' := jmix r c4) hX pfl_10_119 dX10_stepOf_188 rfl rfl (fun _ => ⟨rfl, rfl⟩) (jmix_me rfl hc) ?_
    refine j_iload (pc := 191) hX dX10_stepOf_191 rfl ?_
    replace h := lq_r h
    obtain ⟨h, h0⟩ := Prod.mk.inj (Option.some.inj h)
    subst h h0
    exact j_iret (pc := 193) hX hE rfl rfl dX10_stepOf_193 (Nat.le_refl 0) (Nat.le_refl 0) ⟨rfl, rfl, rfl⟩
  · replace h := lq_f z h
    refine j_iload_n (pc := 180) hX dX10_stepOf_180 rfl rfl ?_
    refine j_goto (pc := 181) (tgt := 188) hX dX10_stepOf_181 (by decide) ?_
    obtain ⟨c5, hc, h⟩ := lq_lt h
    refine k_putI (pc := 188) (c' := jmix r c5) hX pfl_10_119 dX10_stepOf_188 rfl rfl (fun _ => ⟨rfl, rfl⟩) (jmix_me rfl hc) ?_
    refine j_iload (pc := 191) hX dX10_stepOf_191 rfl ?_
    replace h := lq_r h
    obtain ⟨h, h0⟩ := Prod.mk.inj (Option.some.inj h)
    subst h h0
    exact j_iret (pc := 193) hX hE rfl rfl dX10_stepOf_193 (Nat.le_refl 0) (Nat.le_refl 0) ⟨rfl, rfl, rfl⟩
set_option maxHeartbeats 4000000 in
set_option maxRecDepth 100000 in
theorem tj_m_stepOf_P141_73 {X : jX} {d : Nat} {r : jS} {vE : Int32} {cE : jS} (hX : jOk X RX10 cX10_stepOf 7 d) (hdp : 7 ≤ d) (hE : jEnd X (some .int) 0 0 (fun r0 n0 h0 => r0 = (some (.int vE)) ∧ n0 = jN ∧ h0 = jE (jmix r cE))) {k_73 : Nat} (ih_73 : ∀ (v2 : Int32) (v3 : Int32) (v6 : Int32) (c : jS), lpk (fun s : (Int32 × Int32 × Int32 × jS) => m_stepOf_S73 s.1 s.2.1 s.2.2.1 s.2.2.2) k_73 (v2, v3, v6, c) = some (vE, cE) → J X 0 0 jN (jE (jmix r c)) [(0, .ref 30), (2, .int v2), (3, .int v3), (6, .int v6)] [] 73) : ∀ (v2 : Int32) (v3 : Int32) (v4 : Int32) (v5 : Int32) (v6 : Int32) (s1 : Int32) (s2 : Int32) (s3 : Int32) (s4 : Int32) (s5 : Int32) (c : jS), lq (fun s : (Int32 × Int32 × Int32 × jS) => m_stepOf_S73 s.1 s.2.1 s.2.2.1 s.2.2.2) k_73 (vE, cE) (m_stepOf_P141_73 v2 v3 v4 v5 v6 s1 s2 s3 s4 s5 c) → J X 0 0 jN (jE (jmix r c)) [(0, .ref 30), (2, .int v2), (3, .int v3), (4, .int v4), (5, .int v5), (6, .int v6)] [.int s5, .int s4, .int s3, .int s2, .int s1, .ref 30] 141 := by
  intro v2 v3 v4 v5 v6 s1 s2 s3 s4 s5 c h
  conv at h => arg 4; unfold m_stepOf_P141_73
  refine j_iload (pc := 141) hX dX10_stepOf_141 rfl ?_
  refine j_iconst (pc := 143) (v := (1 : Int32)) hX dX10_stepOf_143 (by decide) ?_
  refine j_icmp_ne (pc := 144) (tgt := 152) hX dX10_stepOf_144 (by decide) (fun z => ?_) (fun z => ?_)
  · replace h := lq_f z h
    refine j_aload_n (pc := 152) hX dX10_stepOf_152 rfl rfl ?_
    refine j_iload (pc := 153) hX dX10_stepOf_153 rfl ?_
    refine j_iconst (pc := 155) (v := (1 : Int32)) hX dX10_stepOf_155 (by decide) ?_
    obtain ⟨r7, h1, h⟩ := lq_ob h
    refine k_callVI (pc := 156) (st := [.int s5, .int s4, .int s3, .int s2, .int s1, .ref 30]) hX ln_10_126 dX10_stepOf_156 (t_m_part (d := 0) (Nat.le_refl _) h1) rfl rfl rfl (by omega) (Nat.le_of_ble_eq_true rfl) ?_
    refine j_aload_n (pc := 159) hX dX10_stepOf_159 rfl rfl ?_
    refine j_iload (pc := 160) hX dX10_stepOf_160 rfl ?_
    refine j_iconst (pc := 162) (v := (2 : Int32)) hX dX10_stepOf_162 (by decide) ?_
    obtain ⟨r8, h1, h⟩ := lq_ob h
    refine k_callVI (pc := 163) (st := [.int r7, .int s5, .int s4, .int s3, .int s2, .int s1, .ref 30]) hX ln_10_126 dX10_stepOf_163 (t_m_part (d := 0) (Nat.le_refl _) h1) rfl rfl rfl (by omega) (Nat.le_of_ble_eq_true rfl) ?_
    obtain ⟨r9, c10, h1, h⟩ := lq_bd h
    refine k_callVI (pc := 166) (st := []) hX ln_10_132 dX10_stepOf_166 (t_m_make (d := 1) (Nat.le_refl _) h1) rfl rfl rfl (by omega) (Nat.le_of_ble_eq_true rfl) ?_
    refine j_istore (pc := 169) hX dX10_stepOf_169 (by decide) (by decide) ?_
    refine j_goto (pc := 171) (tgt := 73) hX dX10_stepOf_171 (by decide) ?_
    refine j_sub (lv' := [(0, .ref 30), (2, .int v2), (3, .int v3), (6, .int r9)]) ⟨rfl, rfl, rfl, rfl, trivial⟩ ?_
    exact ih_73 _ _ _ _ (lq_l h)
  · replace h := lq_t z h
    refine j_iload (pc := 147) hX dX10_stepOf_147 rfl ?_
    refine j_goto (pc := 149) (tgt := 159) hX dX10_stepOf_149 (by decide) ?_
    refine j_aload_n (pc := 159) hX dX10_stepOf_159 rfl rfl ?_
    refine j_iload (pc := 160) hX dX10_stepOf_160 rfl ?_
    refine j_iconst (pc := 162) (v := (2 : Int32)) hX dX10_stepOf_162 (by decide) ?_
    obtain ⟨r11, h1, h⟩ := lq_ob h
    refine k_callVI (pc := 163) (st := [.int v6, .int s5, .int s4, .int s3, .int s2, .int s1, .ref 30]) hX ln_10_126 dX10_stepOf_163 (t_m_part (d := 0) (Nat.le_refl _) h1) rfl rfl rfl (by omega) (Nat.le_of_ble_eq_true rfl) ?_
    obtain ⟨r12, c13, h1, h⟩ := lq_bd h
    refine k_callVI (pc := 166) (st := []) hX ln_10_132 dX10_stepOf_166 (t_m_make (d := 1) (Nat.le_refl _) h1) rfl rfl rfl (by omega) (Nat.le_of_ble_eq_true rfl) ?_
    refine j_istore (pc := 169) hX dX10_stepOf_169 (by decide) (by decide) ?_
    refine j_goto (pc := 171) (tgt := 73) hX dX10_stepOf_171 (by decide) ?_
    refine j_sub (lv' := [(0, .ref 30), (2, .int v2), (3, .int v3), (6, .int r12)]) ⟨rfl, rfl, rfl, rfl, trivial⟩ ?_
    exact ih_73 _ _ _ _ (lq_l h)
set_option maxHeartbeats 4000000 in
set_option maxRecDepth 100000 in
theorem tl_m_stepOf_L73 {X : jX} {d : Nat} {r : jS} {vE : Int32} {cE : jS} (hX : jOk X RX10 cX10_stepOf 7 d) (hdp : 7 ≤ d) (hE : jEnd X (some .int) 0 0 (fun r0 n0 h0 => r0 = (some (.int vE)) ∧ n0 = jN ∧ h0 = jE (jmix r cE))) : ∀ (v2 : Int32) (v3 : Int32) (v6 : Int32) (c : jS), m_stepOf_L73 v2 v3 v6 c = some (vE, cE) → J X 0 0 jN (jE (jmix r c)) [(0, .ref 30), (2, .int v2), (3, .int v3), (6, .int v6)] [] 73 := by
  intro v2 v3 v6 c h
  unfold m_stepOf_L73 at h
  replace h := lp_some h
  obtain ⟨k_73, h⟩ := h
  induction k_73 generalizing v2 v3 v6 c with
  | zero => cases h
  | succ k_73 ih_73 =>
    replace h : lq (fun s : (Int32 × Int32 × Int32 × jS) => m_stepOf_S73 s.1 s.2.1 s.2.2.1 s.2.2.2) k_73 (vE, cE) (m_stepOf_S73 v2 v3 v6 c) := lpk_succ (s := (v2, v3, v6, c)) h
    conv at h => arg 4; unfold m_stepOf_S73
    refine j_iload_n (pc := 73) hX dX10_stepOf_73 rfl rfl ?_
    refine j_if_le (pc := 74) (tgt := 174) hX dX10_stepOf_74 (by decide) (fun z => ?_) (fun z => ?_)
    · replace h := lq_t z h
      refine j_sub (lv' := [(0, .ref 30), (2, .int v2), (6, .int v6)]) ⟨rfl, rfl, rfl, trivial⟩ ?_
      exact tj_m_stepOf_P174_73 hX hdp hE ih_73 _ _ _ h
    · replace h := lq_f z h
      refine j_iload (pc := 77) hX dX10_stepOf_77 rfl ?_
      refine j_if_lt (pc := 79) (tgt := 174) hX dX10_stepOf_79 (by decide) (fun z => ?_) (fun z => ?_)
      · replace h := lq_t z h
        refine j_sub (lv' := [(0, .ref 30), (2, .int v2), (6, .int v6)]) ⟨rfl, rfl, rfl, trivial⟩ ?_
        exact tj_m_stepOf_P174_73 hX hdp hE ih_73 _ _ _ h
      · replace h := lq_f z h
        refine j_iinc (pc := 82) hX dX10_stepOf_82 rfl (v := (v3 - (1 : Int32))) (iinc_m1 _) (by decide) (by decide) ?_
        refine j_aload_n (pc := 85) hX dX10_stepOf_85 rfl rfl ?_
        refine k_getR (pc := 86) (q := 53) hX fl_10_87 dX10_stepOf_86 rfl rfl ?_
        refine j_iload_n (pc := 89) hX dX10_stepOf_89 rfl rfl ?_
        obtain ⟨hg, h⟩ := lq_gd h
        refine k_iald (pc := 90) (x := (c 53 ((v3 - (1 : Int32))).toNatClampNeg)) hX dX10_stepOf_90 rfl hg rfl ?_
        refine j_istore (pc := 91) hX dX10_stepOf_91 (by decide) (by decide) ?_
        refine j_aload_n (pc := 93) hX dX10_stepOf_93 rfl rfl ?_
        refine k_getR (pc := 94) (q := 54) hX fl_10_90 dX10_stepOf_94 rfl rfl ?_
        refine j_iload_n (pc := 97) hX dX10_stepOf_97 rfl rfl ?_
        obtain ⟨hg, h⟩ := lq_gd h
        refine k_iald (pc := 98) (x := (c 54 ((v3 - (1 : Int32))).toNatClampNeg)) hX dX10_stepOf_98 rfl hg rfl ?_
        refine j_istore (pc := 99) hX dX10_stepOf_99 (by decide) (by decide) ?_
        refine j_aload_n (pc := 101) hX dX10_stepOf_101 rfl rfl ?_
        refine j_aload_n (pc := 102) hX dX10_stepOf_102 rfl rfl ?_
        refine k_getR (pc := 103) (q := 35) hX fl_10_30 dX10_stepOf_103 rfl rfl ?_
        refine j_iload (pc := 106) hX dX10_stepOf_106 rfl ?_
        obtain ⟨hg, h⟩ := lq_gd h
        refine k_iald (pc := 108) (x := (c 35 ((c 53 ((v3 - (1 : Int32))).toNatClampNeg)).toNatClampNeg)) hX dX10_stepOf_108 rfl hg rfl ?_
        refine j_iconst (pc := 109) (v := (0 : Int32)) hX dX10_stepOf_109 (by decide) ?_
        refine j_aload_n (pc := 110) hX dX10_stepOf_110 rfl rfl ?_
        refine k_getR (pc := 111) (q := 37) hX fl_10_36 dX10_stepOf_111 rfl rfl ?_
        refine j_iload (pc := 114) hX dX10_stepOf_114 rfl ?_
        obtain ⟨hg, h⟩ := lq_gd h
        refine k_iald (pc := 116) (x := (c 37 ((c 53 ((v3 - (1 : Int32))).toNatClampNeg)).toNatClampNeg)) hX dX10_stepOf_116 rfl hg rfl ?_
        refine j_aload_n (pc := 117) hX dX10_stepOf_117 rfl rfl ?_
        refine k_getR (pc := 118) (q := 38) hX fl_10_39 dX10_stepOf_118 rfl rfl ?_
        refine j_iload (pc := 121) hX dX10_stepOf_121 rfl ?_
        obtain ⟨hg, h⟩ := lq_gd h
        refine k_iald (pc := 123) (x := (c 38 ((c 53 ((v3 - (1 : Int32))).toNatClampNeg)).toNatClampNeg)) hX dX10_stepOf_123 rfl hg rfl ?_
        refine j_iload (pc := 124) hX dX10_stepOf_124 rfl ?_
        refine j_if_ne (pc := 126) (tgt := 134) hX dX10_stepOf_126 (by decide) (fun z => ?_) (fun z => ?_)
        · replace h := lq_f z h
          refine j_aload_n (pc := 134) hX dX10_stepOf_134 rfl rfl ?_
          refine j_iload (pc := 135) hX dX10_stepOf_135 rfl ?_
          refine j_iconst (pc := 137) (v := (0 : Int32)) hX dX10_stepOf_137 (by decide) ?_
          obtain ⟨r6, h1, h⟩ := lq_ob h
          refine k_callVI (pc := 138) (st := [.int (c 38 ((c 53 ((v3 - (1 : Int32))).toNatClampNeg)).toNatClampNeg), .int (c 37 ((c 53 ((v3 - (1 : Int32))).toNatClampNeg)).toNatClampNeg), .int (0 : Int32), .int (c 35 ((c 53 ((v3 - (1 : Int32))).toNatClampNeg)).toNatClampNeg), .ref 30]) hX ln_10_126 dX10_stepOf_138 (t_m_part (d := 0) (Nat.le_refl _) h1) rfl rfl rfl (by omega) (Nat.le_of_ble_eq_true rfl) ?_
          refine j_sub (lv' := [(0, .ref 30), (2, .int v2), (3, .int (v3 - (1 : Int32))), (4, .int (c 53 ((v3 - (1 : Int32))).toNatClampNeg)), (5, .int (c 54 ((v3 - (1 : Int32))).toNatClampNeg)), (6, .int v6)]) ⟨rfl, rfl, rfl, rfl, rfl, rfl, trivial⟩ ?_
          exact tj_m_stepOf_P141_73 hX hdp hE ih_73 _ _ _ _ _ _ _ _ _ _ _ h
        · replace h := lq_t z h
          refine j_iload (pc := 129) hX dX10_stepOf_129 rfl ?_
          refine j_goto (pc := 131) (tgt := 141) hX dX10_stepOf_131 (by decide) ?_
          refine j_sub (lv' := [(0, .ref 30), (2, .int v2), (3, .int (v3 - (1 : Int32))), (4, .int (c 53 ((v3 - (1 : Int32))).toNatClampNeg)), (5, .int (c 54 ((v3 - (1 : Int32))).toNatClampNeg)), (6, .int v6)]) ⟨rfl, rfl, rfl, rfl, rfl, rfl, trivial⟩ ?_
          exact tj_m_stepOf_P141_73 hX hdp hE ih_73 _ _ _ _ _ _ _ _ _ _ _ h
set_option maxHeartbeats 4000000 in
set_option maxRecDepth 100000 in
theorem tl_m_stepOf_L18 {X : jX} {d : Nat} {r : jS} {vE : Int32} {cE : jS} (hX : jOk X RX10 cX10_stepOf 7 d) (hdp : 7 ≤ d) (hE : jEnd X (some .int) 0 0 (fun r0 n0 h0 => r0 = (some (.int vE)) ∧ n0 = jN ∧ h0 = jE (jmix r cE))) : ∀ (v2 : Int32) (v3 : Int32) (v4 : Int32) (v5 : Int32) (c : jS), m_stepOf_L18 v2 v3 v4 v5 c = some (vE, cE) → J X 0 0 jN (jE (jmix r c)) [(0, .ref 30), (2, .int v2), (3, .int v3), (4, .int v4), (5, .int v5)] [] 18 := by
  intro v2 v3 v4 v5 c h
  unfold m_stepOf_L18 at h
  replace h := lp_some h
  obtain ⟨k_18, h⟩ := h
  induction k_18 generalizing v2 v3 v4 v5 c with
  | zero => cases h
  | succ k_18 ih_18 =>
    replace h : lq (fun s : (Int32 × Int32 × Int32 × Int32 × jS) => m_stepOf_S18 s.1 s.2.1 s.2.2.1 s.2.2.2.1 s.2.2.2.2) k_18 (vE, cE) (m_stepOf_S18 v2 v3 v4 v5 c) := lpk_succ (s := (v2, v3, v4, v5, c)) h
    conv at h => arg 4; unfold m_stepOf_S18
    refine j_iload (pc := 18) hX dX10_stepOf_18 rfl ?_
    refine j_bipush (pc := 20) (v := (-2 : Int32)) hX dX10_stepOf_20 (by decide) ?_
    refine j_icmp_eq (pc := 22) (tgt := 65) hX dX10_stepOf_22 (by decide) (fun z => ?_) (fun z => ?_)
    · replace h := lq_t z h
      refine j_aload_n (pc := 65) hX dX10_stepOf_65 rfl rfl ?_
      refine j_iload (pc := 66) hX dX10_stepOf_66 rfl ?_
      obtain ⟨r2, c3, h1, h⟩ := lq_bd h
      refine k_callVI (pc := 68) (st := []) hX ln_10_210 dX10_stepOf_68 (t_m_stepHere (d := 6) (Nat.le_refl _) h1) rfl rfl rfl (by omega) (Nat.le_of_ble_eq_true rfl) ?_
      refine j_istore (pc := 71) hX dX10_stepOf_71 (by decide) (by decide) ?_
      refine j_sub (lv' := [(0, .ref 30), (2, .int v2), (3, .int v3), (6, .int r2)]) ⟨rfl, rfl, rfl, rfl, trivial⟩ ?_
      exact tl_m_stepOf_L73 hX hdp hE _ _ _ _ (lq_om h)
    · replace h := lq_f z h
      refine j_aload_n (pc := 25) hX dX10_stepOf_25 rfl rfl ?_
      refine k_getR (pc := 26) (q := 53) hX fl_10_87 dX10_stepOf_26 rfl rfl ?_
      refine j_iload_n (pc := 29) hX dX10_stepOf_29 rfl rfl ?_
      refine j_iload (pc := 30) hX dX10_stepOf_30 rfl ?_
      obtain ⟨hg, h⟩ := lq_gd h
      obtain ⟨c14, hc, h⟩ := lq_lt h
      refine k_iast (pc := 32) (c' := jmix r c14) hX dX10_stepOf_32 rfl hg (jmix_me rfl hc) ?_
      refine j_aload_n (pc := 33) hX dX10_stepOf_33 rfl rfl ?_
      refine k_getR (pc := 34) (q := 54) hX fl_10_90 dX10_stepOf_34 rfl rfl ?_
      refine j_iload_n (pc := 37) hX dX10_stepOf_37 rfl rfl ?_
      refine j_iload (pc := 38) hX dX10_stepOf_38 rfl ?_
      obtain ⟨hg, h⟩ := lq_gd h
      obtain ⟨c15, hc, h⟩ := lq_lt h
      refine k_iast (pc := 40) (c' := jmix r c15) hX dX10_stepOf_40 rfl hg (jmix_me rfl hc) ?_
      refine j_iinc (pc := 41) hX dX10_stepOf_41 rfl (v := (v3 + (1 : Int32))) rfl (by decide) (by decide) ?_
      refine j_aload_n (pc := 44) hX dX10_stepOf_44 rfl rfl ?_
      refine j_iload (pc := 45) hX dX10_stepOf_45 rfl ?_
      refine j_iload (pc := 47) hX dX10_stepOf_47 rfl ?_
      obtain ⟨r16, h1, h⟩ := lq_ob h
      refine k_callVI (pc := 49) (st := []) hX ln_10_126 dX10_stepOf_49 (t_m_part (d := 0) (Nat.le_refl _) h1) rfl rfl rfl (by omega) (Nat.le_of_ble_eq_true rfl) ?_
      refine j_istore (pc := 52) hX dX10_stepOf_52 (by decide) (by decide) ?_
      refine j_aload_n (pc := 54) hX dX10_stepOf_54 rfl rfl ?_
      refine j_iload (pc := 55) hX dX10_stepOf_55 rfl ?_
      obtain ⟨r17, h1, h⟩ := lq_ob h
      refine k_callVI (pc := 57) (st := []) hX ln_10_207 dX10_stepOf_57 (t_m_partToStep (d := 1) (Nat.le_refl _) h1) rfl rfl rfl (by omega) (Nat.le_of_ble_eq_true rfl) ?_
      refine j_istore (pc := 60) hX dX10_stepOf_60 (by decide) (by decide) ?_
      refine j_goto (pc := 62) (tgt := 18) hX dX10_stepOf_62 (by decide) ?_
      refine j_sub (lv' := [(0, .ref 30), (2, .int v2), (3, .int (v3 + (1 : Int32))), (4, .int r16), (5, .int r17)]) ⟨rfl, rfl, rfl, rfl, rfl, trivial⟩ ?_
      exact ih_18 _ _ _ _ _ (lq_l h)
set_option maxHeartbeats 4000000 in
set_option maxRecDepth 100000 in
theorem t_m_stepOf {l : Launch} {D : va_G} {G : Nat → ClassId} {d : Nat} (hdp : 7 ≤ d) {c r : jS} {a1 : Int32} {vE : Int32} {cE : jS} (h : m_stepOf c a1 = some (vE, cE)) : jC l D G d M_m_stepOf [.ref 30, .int a1] (jmix r c) (some (.int vE)) (jmix r cE) := by
  refine jM_of rfl (Nat.le_of_ble_eq_true rfl) ?_
  intro X hl hD hG _ _ hX hE _
  subst hl hD hG
  unfold m_stepOf at h
  show J X 0 0 jN (jE (jmix r c)) [(0, .ref 30), (1, .int a1)] [] 0
  refine j_aload_n (pc := 0) hX dX10_stepOf_0 rfl rfl ?_
  refine k_getI (pc := 1) (x := (c 30 5)) hX fl_10_119 dX10_stepOf_1 rfl rfl rfl ?_
  refine j_istore_n (pc := 4) hX dX10_stepOf_4 rfl (by decide) (by decide) ?_
  refine j_iconst (pc := 5) (v := (0 : Int32)) hX dX10_stepOf_5 (by decide) ?_
  refine j_istore_n (pc := 6) hX dX10_stepOf_6 rfl (by decide) (by decide) ?_
  refine j_iload_n (pc := 7) hX dX10_stepOf_7 rfl rfl ?_
  refine j_istore (pc := 8) hX dX10_stepOf_8 (by decide) (by decide) ?_
  refine j_aload_n (pc := 10) hX dX10_stepOf_10 rfl rfl ?_
  refine j_iload (pc := 11) hX dX10_stepOf_11 rfl ?_
  obtain ⟨r1, h1, h⟩ := ob_some h
  refine k_callVI (pc := 13) (st := []) hX ln_10_207 dX10_stepOf_13 (t_m_partToStep (d := 1) (Nat.le_refl _) h1) rfl rfl rfl (by omega) (Nat.le_of_ble_eq_true rfl) ?_
  refine j_istore (pc := 16) hX dX10_stepOf_16 (by decide) (by decide) ?_
  refine j_sub (lv' := [(0, .ref 30), (2, .int (c 30 5)), (3, .int (0 : Int32)), (4, .int a1), (5, .int r1)]) ⟨rfl, rfl, rfl, rfl, rfl, trivial⟩ ?_
  exact tl_m_stepOf_L18 hX hdp hE _ _ _ _ _ h

set_option maxHeartbeats 4000000 in
set_option maxRecDepth 100000 in
theorem t_m_step {l : Launch} {D : va_G} {G : Nat → ClassId} {d : Nat} (hdp : 8 ≤ d) {c r : jS} {a1 : Int32} {vE : Int32} {cE : jS} (h : m_step c a1 = some (vE, cE)) : jC l D G d M_m_step [.ref 30, .int a1] (jmix r c) (some (.int vE)) (jmix r cE) := by
  refine jM_of rfl (Nat.le_of_ble_eq_true rfl) ?_
  intro X hl hD hG _ _ hX hE _
  subst hl hD hG
  unfold m_step at h
  show J X 0 0 jN (jE (jmix r c)) [(0, .ref 30), (1, .int a1)] [] 0
  refine j_aload_n (pc := 0) hX dX10_step_0 rfl rfl ?_
  refine j_iload_n (pc := 1) hX dX10_step_1 rfl rfl ?_
  obtain ⟨r1, h1, h⟩ := ob_some h
  refine k_callVI (pc := 2) (st := []) hX ln_10_136 dX10_step_2 (t_m_isTerm (d := 1) (Nat.le_refl _) h1) rfl rfl rfl (by omega) (Nat.le_of_ble_eq_true rfl) ?_
  refine j_if_eq (pc := 5) (tgt := 16) hX dX10_step_5 (by decide) (fun z => ?_) (fun z => ?_)
  · replace h := ite_t z h
    refine j_iconst (pc := 16) (v := (-1 : Int32)) hX dX10_step_16 (by decide) ?_
    obtain ⟨h, h0⟩ := Prod.mk.inj (Option.some.inj h)
    subst h h0
    exact j_iret (pc := 17) hX hE rfl rfl dX10_step_17 (Nat.le_refl 0) (Nat.le_refl 0) ⟨rfl, rfl, rfl⟩
  · replace h := ite_f z h
    refine j_aload_n (pc := 8) hX dX10_step_8 rfl rfl ?_
    refine j_iload_n (pc := 9) hX dX10_step_9 rfl rfl ?_
    obtain ⟨r2, c3, h1, h⟩ := bd_some h
    refine k_callVI (pc := 10) (st := []) hX ln_10_213 dX10_step_10 (t_m_stepOf (d := 7) (Nat.le_refl _) h1) rfl rfl rfl (by omega) (Nat.le_of_ble_eq_true rfl) ?_
    refine j_goto (pc := 13) (tgt := 17) hX dX10_step_13 (by decide) ?_
    obtain ⟨h, h0⟩ := Prod.mk.inj (Option.some.inj h)
    subst h h0
    exact j_iret (pc := 17) hX hE rfl rfl dX10_step_17 (Nat.le_refl 0) (Nat.le_refl 0) ⟨rfl, rfl, rfl⟩

set_option maxHeartbeats 4000000 in
set_option maxRecDepth 100000 in
theorem tj_m_run_P68_34 {X : jX} {d : Nat} {r : jS} {vE : Int32} {cE : jS} (hX : jOk X RX10 cX10_run 7 d) (hdp : 8 ≤ d) (hE : jEnd X (some .int) 0 0 (fun r0 n0 h0 => r0 = (some (.int vE)) ∧ n0 = jN ∧ h0 = jE (jmix r cE))) {k_34 : Nat} (ih_34 : ∀ (v2 : Int32) (v3 : Int32) (v4 : Int32) (v5 : Int32) (v6 : Int32) (c : jS), lpk (fun s : (Int32 × Int32 × Int32 × Int32 × Int32 × jS) => m_run_S34 s.1 s.2.1 s.2.2.1 s.2.2.2.1 s.2.2.2.2.1 s.2.2.2.2.2) k_34 (v2, v3, v4, v5, v6, c) = some (vE, cE) → J X 0 0 jN (jE (jmix r c)) [(0, .ref 30), (2, .int v2), (3, .int v3), (4, .int v4), (5, .int v5), (6, .int v6)] [] 34) : ∀ (v3 : Int32) (v4 : Int32) (v5 : Int32) (v6 : Int32) (c : jS), lq (fun s : (Int32 × Int32 × Int32 × Int32 × Int32 × jS) => m_run_S34 s.1 s.2.1 s.2.2.1 s.2.2.2.1 s.2.2.2.2.1 s.2.2.2.2.2) k_34 (vE, cE) (m_run_P68_34 v3 v4 v5 v6 c) → J X 0 0 jN (jE (jmix r c)) [(0, .ref 30), (3, .int v3), (4, .int v4), (5, .int v5), (6, .int v6)] [] 68 := by
  intro v3 v4 v5 v6 c h
  conv at h => arg 4; unfold m_run_P68_34
  refine j_iload (pc := 68) hX dX10_run_68 rfl ?_
  refine j_bipush (pc := 70) (v := (-3 : Int32)) hX dX10_run_70 (by decide) ?_
  refine j_icmp_ne (pc := 72) (tgt := 83) hX dX10_run_72 (by decide) (fun z => ?_) (fun z => ?_)
  · replace h := lq_f z h
    refine j_aload_n (pc := 83) hX dX10_run_83 rfl rfl ?_
    refine j_iload (pc := 84) hX dX10_run_84 rfl ?_
    obtain ⟨c3, hc, h⟩ := lq_lt h
    refine k_putI (pc := 86) (c' := jmix r c3) hX pfl_10_216 dX10_run_86 rfl rfl (fun _ => ⟨rfl, rfl⟩) (jmix_me rfl hc) ?_
    refine j_iload (pc := 89) hX dX10_run_89 rfl ?_
    replace h := lq_r h
    obtain ⟨h, h0⟩ := Prod.mk.inj (Option.some.inj h)
    subst h h0
    exact j_iret (pc := 91) hX hE rfl rfl dX10_run_91 (Nat.le_refl 0) (Nat.le_refl 0) ⟨rfl, rfl, rfl⟩
  · replace h := lq_t z h
    refine j_aload_n (pc := 75) hX dX10_run_75 rfl rfl ?_
    refine j_iload_n (pc := 76) hX dX10_run_76 rfl rfl ?_
    obtain ⟨c4, hc, h⟩ := lq_lt h
    refine k_putI (pc := 77) (c' := jmix r c4) hX pfl_10_119 dX10_run_77 rfl rfl (fun _ => ⟨rfl, rfl⟩) (jmix_me rfl hc) ?_
    refine j_bipush (pc := 80) (v := (-3 : Int32)) hX dX10_run_80 (by decide) ?_
    replace h := lq_r h
    obtain ⟨h, h0⟩ := Prod.mk.inj (Option.some.inj h)
    subst h h0
    exact j_iret (pc := 82) hX hE rfl rfl dX10_run_82 (Nat.le_refl 0) (Nat.le_refl 0) ⟨rfl, rfl, rfl⟩
set_option maxHeartbeats 4000000 in
set_option maxRecDepth 100000 in
theorem tl_m_run_L34 {X : jX} {d : Nat} {r : jS} {vE : Int32} {cE : jS} (hX : jOk X RX10 cX10_run 7 d) (hdp : 8 ≤ d) (hE : jEnd X (some .int) 0 0 (fun r0 n0 h0 => r0 = (some (.int vE)) ∧ n0 = jN ∧ h0 = jE (jmix r cE))) : ∀ (v2 : Int32) (v3 : Int32) (v4 : Int32) (v5 : Int32) (v6 : Int32) (c : jS), m_run_L34 v2 v3 v4 v5 v6 c = some (vE, cE) → J X 0 0 jN (jE (jmix r c)) [(0, .ref 30), (2, .int v2), (3, .int v3), (4, .int v4), (5, .int v5), (6, .int v6)] [] 34 := by
  intro v2 v3 v4 v5 v6 c h
  unfold m_run_L34 at h
  replace h := lp_some h
  obtain ⟨k_34, h⟩ := h
  induction k_34 generalizing v2 v3 v4 v5 v6 c with
  | zero => cases h
  | succ k_34 ih_34 =>
    replace h : lq (fun s : (Int32 × Int32 × Int32 × Int32 × Int32 × jS) => m_run_S34 s.1 s.2.1 s.2.2.1 s.2.2.2.1 s.2.2.2.2.1 s.2.2.2.2.2) k_34 (vE, cE) (m_run_S34 v2 v3 v4 v5 v6 c) := lpk_succ (s := (v2, v3, v4, v5, v6, c)) h
    conv at h => arg 4; unfold m_run_S34
    refine j_iload (pc := 34) hX dX10_run_34 rfl ?_
    refine j_iload_n (pc := 36) hX dX10_run_36 rfl rfl ?_
    refine j_icmp_ge (pc := 37) (tgt := 68) hX dX10_run_37 (by decide) (fun z => ?_) (fun z => ?_)
    · replace h := lq_t z h
      refine j_sub (lv' := [(0, .ref 30), (3, .int v3), (4, .int v4), (5, .int v5), (6, .int v6)]) ⟨rfl, rfl, rfl, rfl, rfl, trivial⟩ ?_
      exact tj_m_run_P68_34 hX hdp hE ih_34 _ _ _ _ _ h
    · replace h := lq_f z h
      refine j_iload (pc := 40) hX dX10_run_40 rfl ?_
      refine j_if_lt (pc := 42) (tgt := 68) hX dX10_run_42 (by decide) (fun z => ?_) (fun z => ?_)
      · replace h := lq_t z h
        refine j_sub (lv' := [(0, .ref 30), (3, .int v3), (4, .int v4), (5, .int v5), (6, .int v6)]) ⟨rfl, rfl, rfl, rfl, rfl, trivial⟩ ?_
        exact tj_m_run_P68_34 hX hdp hE ih_34 _ _ _ _ _ h
      · replace h := lq_f z h
        refine j_aload_n (pc := 45) hX dX10_run_45 rfl rfl ?_
        refine j_iload (pc := 46) hX dX10_run_46 rfl ?_
        obtain ⟨r5, c6, h1, h⟩ := lq_bd h
        refine k_callVI (pc := 48) (st := []) hX ln_10_213 dX10_run_48 (t_m_stepOf (d := 7) (Nat.le_refl _) h1) rfl rfl rfl (by omega) (Nat.le_of_ble_eq_true rfl) ?_
        refine j_istore (pc := 51) hX dX10_run_51 (by decide) (by decide) ?_
        refine j_iload (pc := 53) hX dX10_run_53 rfl ?_
        refine j_if_lt (pc := 55) (tgt := 34) hX dX10_run_55 (by decide) (fun z => ?_) (fun z => ?_)
        · replace h := lq_t z h
          refine j_sub (lv' := [(0, .ref 30), (2, .int v2), (3, .int v3), (4, .int v4), (5, .int r5), (6, .int v6)]) ⟨rfl, rfl, rfl, rfl, rfl, rfl, trivial⟩ ?_
          exact ih_34 _ _ _ _ _ _ (lq_l h)
        · replace h := lq_f z h
          refine j_iload (pc := 58) hX dX10_run_58 rfl ?_
          refine j_istore (pc := 60) hX dX10_run_60 (by decide) (by decide) ?_
          refine j_iinc (pc := 62) hX dX10_run_62 rfl (v := (v6 + (1 : Int32))) rfl (by decide) (by decide) ?_
          refine j_goto (pc := 65) (tgt := 34) hX dX10_run_65 (by decide) ?_
          refine j_sub (lv' := [(0, .ref 30), (2, .int v2), (3, .int v3), (4, .int r5), (5, .int r5), (6, .int (v6 + (1 : Int32)))]) ⟨rfl, rfl, rfl, rfl, rfl, rfl, trivial⟩ ?_
          exact ih_34 _ _ _ _ _ _ (lq_l h)
set_option maxHeartbeats 4000000 in
set_option maxRecDepth 100000 in
theorem t_m_run {l : Launch} {D : va_G} {G : Nat → ClassId} {d : Nat} (hdp : 8 ≤ d) {c r : jS} {a1 : Int32} {a2 : Int32} {vE : Int32} {cE : jS} (h : m_run c a1 a2 = some (vE, cE)) : jC l D G d M_m_run [.ref 30, .int a1, .int a2] (jmix r c) (some (.int vE)) (jmix r cE) := by
  refine jM_of rfl (Nat.le_of_ble_eq_true rfl) ?_
  intro X hl hD hG _ _ hX hE _
  subst hl hD hG
  unfold m_run at h
  show J X 0 0 jN (jE (jmix r c)) [(0, .ref 30), (1, .int a1), (2, .int a2)] [] 0
  refine j_aload_n (pc := 0) hX dX10_run_0 rfl rfl ?_
  refine j_iload_n (pc := 1) hX dX10_run_1 rfl rfl ?_
  obtain ⟨r1, h1, h⟩ := ob_some h
  refine k_callVI (pc := 2) (st := []) hX ln_10_136 dX10_run_2 (t_m_isTerm (d := 1) (Nat.le_refl _) h1) rfl rfl rfl (by omega) (Nat.le_of_ble_eq_true rfl) ?_
  refine j_if_eq (pc := 5) (tgt := 18) hX dX10_run_5 (by decide) (fun z => ?_) (fun z => ?_)
  · replace h := ite_t z h
    refine j_iconst (pc := 18) (v := (-1 : Int32)) hX dX10_run_18 (by decide) ?_
    obtain ⟨h, h0⟩ := Prod.mk.inj (Option.some.inj h)
    subst h h0
    exact j_iret (pc := 19) hX hE rfl rfl dX10_run_19 (Nat.le_refl 0) (Nat.le_refl 0) ⟨rfl, rfl, rfl⟩
  · replace h := ite_f z h
    refine j_iload_n (pc := 8) hX dX10_run_8 rfl rfl ?_
    refine j_iconst (pc := 9) (v := (0 : Int32)) hX dX10_run_9 (by decide) ?_
    refine j_bipush (pc := 10) (v := (50 : Int32)) hX dX10_run_10 (by decide) ?_
    obtain ⟨r2, h1, h⟩ := ob_some h
    refine k_callSI (pc := 12) (st := []) hX ln_10_3 dX10_run_12 (t_m_in (d := 0) (Nat.le_refl _) h1) rfl rfl (by omega) (Nat.le_of_ble_eq_true rfl) ?_
    refine j_if_ne (pc := 15) (tgt := 20) hX dX10_run_15 (by decide) (fun z => ?_) (fun z => ?_)
    · replace h := ite_f z h
      refine j_aload_n (pc := 20) hX dX10_run_20 rfl rfl ?_
      refine k_getI (pc := 21) (x := (c 30 5)) hX fl_10_119 dX10_run_21 rfl rfl rfl ?_
      refine j_istore_n (pc := 24) hX dX10_run_24 rfl (by decide) (by decide) ?_
      refine j_iload_n (pc := 25) hX dX10_run_25 rfl rfl ?_
      refine j_istore (pc := 26) hX dX10_run_26 (by decide) (by decide) ?_
      refine j_iload_n (pc := 28) hX dX10_run_28 rfl rfl ?_
      refine j_istore (pc := 29) hX dX10_run_29 (by decide) (by decide) ?_
      refine j_iconst (pc := 31) (v := (0 : Int32)) hX dX10_run_31 (by decide) ?_
      refine j_istore (pc := 32) hX dX10_run_32 (by decide) (by decide) ?_
      refine j_sub (lv' := [(0, .ref 30), (2, .int a2), (3, .int (c 30 5)), (4, .int a1), (5, .int a1), (6, .int (0 : Int32))]) ⟨rfl, rfl, rfl, rfl, rfl, rfl, trivial⟩ ?_
      exact tl_m_run_L34 hX hdp hE _ _ _ _ _ _ h
    · replace h := ite_t z h
      refine j_iconst (pc := 18) (v := (-1 : Int32)) hX dX10_run_18 (by decide) ?_
      obtain ⟨h, h0⟩ := Prod.mk.inj (Option.some.inj h)
      subst h h0
      exact j_iret (pc := 19) hX hE rfl rfl dX10_run_19 (Nat.le_refl 0) (Nat.le_refl 0) ⟨rfl, rfl, rfl⟩

set_option maxHeartbeats 4000000 in
set_option maxRecDepth 100000 in
theorem t_m_ran {l : Launch} {D : va_G} {G : Nat → ClassId} {d : Nat} (hdp : 0 ≤ d) {c r : jS} {vE : Int32} (h : m_ran c = some vE) : jC l D G d M_m_ran [.ref 30] (jmix r c) (some (.int vE)) (jmix r c) := by
  refine jM_of rfl (Nat.le_of_ble_eq_true rfl) ?_
  intro X hl hD hG _ _ hX hE _
  subst hl hD hG
  unfold m_ran at h
  show J X 0 0 jN (jE (jmix r c)) [(0, .ref 30)] [] 0
  refine j_aload_n (pc := 0) hX dX10_ran_0 rfl rfl ?_
  refine k_getI (pc := 1) (x := (c 30 31)) hX fl_10_216 dX10_ran_1 rfl rfl rfl ?_
  replace h := Option.some.inj h
  subst h
  exact j_iret (pc := 4) hX hE rfl rfl dX10_ran_4 (Nat.le_refl 0) (Nat.le_refl 0) ⟨rfl, rfl, rfl⟩

set_option maxHeartbeats 4000000 in
set_option maxRecDepth 100000 in
theorem tj_m_dropTurn_P142 {X : jX} {d : Nat} {r : jS} {cE : jS} (hX : jOk X RX10 cX10_dropTurn 5 d) (hdp : 3 ≤ d) (hE : jEnd X none 0 0 (fun r0 n0 h0 => r0 = none ∧ n0 = jN ∧ h0 = jE (jmix r cE))) : ∀ (v1 : Int32) (v2 : Int32) (s0 : Int32) (c : jS), m_dropTurn_P142 v1 v2 s0 c = some ((), cE) → J X 0 0 jN (jE (jmix r c)) [(0, .ref 30), (1, .int v1), (2, .int v2)] [.int s0] 142 := by
  intro v1 v2 s0 c h
  unfold m_dropTurn_P142 at h
  refine j_istore (pc := 142) hX dX10_dropTurn_142 (by decide) (by decide) ?_
  refine j_aload_n (pc := 144) hX dX10_dropTurn_144 rfl rfl ?_
  refine j_iload (pc := 145) hX dX10_dropTurn_145 rfl ?_
  refine j_if_eq (pc := 147) (tgt := 159) hX dX10_dropTurn_147 (by decide) (fun z => ?_) (fun z => ?_)
  · replace h := ite_t z h
    refine j_aload_n (pc := 159) hX dX10_dropTurn_159 rfl rfl ?_
    refine j_iload_n (pc := 160) hX dX10_dropTurn_160 rfl rfl ?_
    refine j_aload_n (pc := 161) hX dX10_dropTurn_161 rfl rfl ?_
    refine k_getR (pc := 162) (q := 37) hX fl_10_36 dX10_dropTurn_162 rfl rfl ?_
    refine j_iload_n (pc := 165) hX dX10_dropTurn_165 rfl rfl ?_
    obtain ⟨hg, h⟩ := gd_some h
    refine k_iald (pc := 166) (x := (c 37 (v2).toNatClampNeg)) hX dX10_dropTurn_166 rfl hg rfl ?_
    refine j_aload_n (pc := 167) hX dX10_dropTurn_167 rfl rfl ?_
    refine k_getR (pc := 168) (q := 45) hX fl_10_60 dX10_dropTurn_168 rfl rfl ?_
    refine j_iload_n (pc := 171) hX dX10_dropTurn_171 rfl rfl ?_
    obtain ⟨hg, h⟩ := gd_some h
    refine k_iald (pc := 172) (x := (c 45 (v1).toNatClampNeg)) hX dX10_dropTurn_172 rfl hg rfl ?_
    refine j_aload_n (pc := 173) hX dX10_dropTurn_173 rfl rfl ?_
    refine k_getR (pc := 174) (q := 46) hX fl_10_63 dX10_dropTurn_174 rfl rfl ?_
    refine j_iload_n (pc := 177) hX dX10_dropTurn_177 rfl rfl ?_
    obtain ⟨hg, h⟩ := gd_some h
    refine k_iald (pc := 178) (x := (c 46 (v1).toNatClampNeg)) hX dX10_dropTurn_178 rfl hg rfl ?_
    refine j_aload_n (pc := 179) hX dX10_dropTurn_179 rfl rfl ?_
    refine k_getR (pc := 180) (q := 47) hX fl_10_66 dX10_dropTurn_180 rfl rfl ?_
    refine j_iload_n (pc := 183) hX dX10_dropTurn_183 rfl rfl ?_
    obtain ⟨hg, h⟩ := gd_some h
    refine k_iald (pc := 184) (x := (c 47 (v1).toNatClampNeg)) hX dX10_dropTurn_184 rfl hg rfl ?_
    obtain ⟨r3, c4, h1, h⟩ := bd_some h
    refine k_callVI (pc := 185) (st := [.ref 30]) hX ln_10_190 dX10_dropTurn_185 (t_m_remade (d := 2) (Nat.le_refl _) h1) rfl rfl rfl (by omega) (Nat.le_of_ble_eq_true rfl) ?_
    obtain ⟨c5, hc, h⟩ := lt_some h
    refine k_putI (pc := 188) (c' := jmix r c5) hX pfl_10_151 dX10_dropTurn_188 rfl rfl (fun _ => ⟨rfl, rfl⟩) (jmix_me rfl hc) ?_
    refine j_aload_n (pc := 191) hX dX10_dropTurn_191 rfl rfl ?_
    refine j_dup (pc := 192) hX dX10_dropTurn_192 rfl ?_
    refine k_getI (pc := 193) (x := (c5 30 14)) hX fl_10_145 dX10_dropTurn_193 rfl rfl rfl ?_
    refine j_iconst (pc := 196) (v := (1 : Int32)) hX dX10_dropTurn_196 (by decide) ?_
    refine j_isub (pc := 197) hX dX10_dropTurn_197 ?_
    obtain ⟨c6, hc, h⟩ := lt_some h
    refine k_putI (pc := 198) (c' := jmix r c6) hX pfl_10_145 dX10_dropTurn_198 rfl rfl (fun _ => ⟨rfl, rfl⟩) (jmix_me rfl hc) ?_
    obtain ⟨_, h⟩ := Prod.mk.inj (Option.some.inj h)
    subst h
    exact j_vret (pc := 201) hX hE dX10_dropTurn_201 (Nat.le_refl 0) (Nat.le_refl 0) ⟨rfl, rfl, rfl⟩
  · replace h := ite_f z h
    refine j_aload_n (pc := 150) hX dX10_dropTurn_150 rfl rfl ?_
    refine k_getR (pc := 151) (q := 46) hX fl_10_63 dX10_dropTurn_151 rfl rfl ?_
    refine j_iload_n (pc := 154) hX dX10_dropTurn_154 rfl rfl ?_
    obtain ⟨hg, h⟩ := gd_some h
    refine k_iald (pc := 155) (x := (c 46 (v1).toNatClampNeg)) hX dX10_dropTurn_155 rfl hg rfl ?_
    refine j_goto (pc := 156) (tgt := 188) hX dX10_dropTurn_156 (by decide) ?_
    obtain ⟨c7, hc, h⟩ := lt_some h
    refine k_putI (pc := 188) (c' := jmix r c7) hX pfl_10_151 dX10_dropTurn_188 rfl rfl (fun _ => ⟨rfl, rfl⟩) (jmix_me rfl hc) ?_
    refine j_aload_n (pc := 191) hX dX10_dropTurn_191 rfl rfl ?_
    refine j_dup (pc := 192) hX dX10_dropTurn_192 rfl ?_
    refine k_getI (pc := 193) (x := (c7 30 14)) hX fl_10_145 dX10_dropTurn_193 rfl rfl rfl ?_
    refine j_iconst (pc := 196) (v := (1 : Int32)) hX dX10_dropTurn_196 (by decide) ?_
    refine j_isub (pc := 197) hX dX10_dropTurn_197 ?_
    obtain ⟨c8, hc, h⟩ := lt_some h
    refine k_putI (pc := 198) (c' := jmix r c8) hX pfl_10_145 dX10_dropTurn_198 rfl rfl (fun _ => ⟨rfl, rfl⟩) (jmix_me rfl hc) ?_
    obtain ⟨_, h⟩ := Prod.mk.inj (Option.some.inj h)
    subst h
    exact j_vret (pc := 201) hX hE dX10_dropTurn_201 (Nat.le_refl 0) (Nat.le_refl 0) ⟨rfl, rfl, rfl⟩
set_option maxHeartbeats 4000000 in
set_option maxRecDepth 100000 in
theorem tj_m_dropTurn_P141 {X : jX} {d : Nat} {r : jS} {cE : jS} (hX : jOk X RX10 cX10_dropTurn 5 d) (hdp : 3 ≤ d) (hE : jEnd X none 0 0 (fun r0 n0 h0 => r0 = none ∧ n0 = jN ∧ h0 = jE (jmix r cE))) : ∀ (v1 : Int32) (v2 : Int32) (c : jS), m_dropTurn_P141 v1 v2 c = some ((), cE) → J X 0 0 jN (jE (jmix r c)) [(0, .ref 30), (1, .int v1), (2, .int v2)] [] 141 := by
  intro v1 v2 c h
  unfold m_dropTurn_P141 at h
  refine j_iconst (pc := 141) (v := (0 : Int32)) hX dX10_dropTurn_141 (by decide) ?_
  refine j_sub (lv' := [(0, .ref 30), (1, .int v1), (2, .int v2)]) ⟨rfl, rfl, rfl, trivial⟩ ?_
  exact tj_m_dropTurn_P142 hX hdp hE _ _ _ _ h
set_option maxHeartbeats 4000000 in
set_option maxRecDepth 100000 in
theorem tj_m_dropTurn_P82 {X : jX} {d : Nat} {r : jS} {cE : jS} (hX : jOk X RX10 cX10_dropTurn 5 d) (hdp : 3 ≤ d) (hE : jEnd X none 0 0 (fun r0 n0 h0 => r0 = none ∧ n0 = jN ∧ h0 = jE (jmix r cE))) : ∀ (v1 : Int32) (v2 : Int32) (v3 : Int32) (c : jS), m_dropTurn_P82 v1 v2 v3 c = some ((), cE) → J X 0 0 jN (jE (jmix r c)) [(0, .ref 30), (1, .int v1), (2, .int v2), (3, .int v3)] [] 82 := by
  intro v1 v2 v3 c h
  unfold m_dropTurn_P82 at h
  refine j_iload_n (pc := 82) hX dX10_dropTurn_82 rfl rfl ?_
  refine j_aload_n (pc := 83) hX dX10_dropTurn_83 rfl rfl ?_
  refine k_getR (pc := 84) (q := 35) hX fl_10_30 dX10_dropTurn_84 rfl rfl ?_
  refine j_iload_n (pc := 87) hX dX10_dropTurn_87 rfl rfl ?_
  obtain ⟨hg, h⟩ := gd_some h
  refine k_iald (pc := 88) (x := (c 35 (v2).toNatClampNeg)) hX dX10_dropTurn_88 rfl hg rfl ?_
  obtain ⟨r2, h1, h⟩ := ob_some h
  refine k_callSI (pc := 89) (st := [.int v3]) hX ln_10_122 dX10_dropTurn_89 (t_m_partsOf (d := 0) (Nat.le_refl _) h1) rfl rfl (by omega) (Nat.le_of_ble_eq_true rfl) ?_
  refine j_icmp_ge (pc := 92) (tgt := 108) hX dX10_dropTurn_92 (by decide) (fun z => ?_) (fun z => ?_)
  · replace h := ite_t z h
    refine j_aload_n (pc := 108) hX dX10_dropTurn_108 rfl rfl ?_
    refine k_getR (pc := 109) (q := 35) hX fl_10_30 dX10_dropTurn_109 rfl rfl ?_
    refine j_iload_n (pc := 112) hX dX10_dropTurn_112 rfl rfl ?_
    obtain ⟨hg, h⟩ := gd_some h
    refine k_iald (pc := 113) (x := (c 35 (v2).toNatClampNeg)) hX dX10_dropTurn_113 rfl hg rfl ?_
    refine j_iconst (pc := 114) (v := (4 : Int32)) hX dX10_dropTurn_114 (by decide) ?_
    refine j_icmp_ne (pc := 115) (tgt := 141) hX dX10_dropTurn_115 (by decide) (fun z => ?_) (fun z => ?_)
    · replace h := ite_f z h
      refine j_sub (lv' := [(0, .ref 30), (1, .int v1), (2, .int v2)]) ⟨rfl, rfl, rfl, trivial⟩ ?_
      exact tj_m_dropTurn_P141 hX hdp hE _ _ _ h
    · replace h := ite_t z h
      refine j_aload_n (pc := 118) hX dX10_dropTurn_118 rfl rfl ?_
      refine j_aload_n (pc := 119) hX dX10_dropTurn_119 rfl rfl ?_
      refine k_getR (pc := 120) (q := 46) hX fl_10_63 dX10_dropTurn_120 rfl rfl ?_
      refine j_iload_n (pc := 123) hX dX10_dropTurn_123 rfl rfl ?_
      obtain ⟨hg, h⟩ := gd_some h
      refine k_iald (pc := 124) (x := (c 46 (v1).toNatClampNeg)) hX dX10_dropTurn_124 rfl hg rfl ?_
      refine j_aload_n (pc := 125) hX dX10_dropTurn_125 rfl rfl ?_
      refine k_getR (pc := 126) (q := 37) hX fl_10_36 dX10_dropTurn_126 rfl rfl ?_
      refine j_iload_n (pc := 129) hX dX10_dropTurn_129 rfl rfl ?_
      obtain ⟨hg, h⟩ := gd_some h
      refine k_iald (pc := 130) (x := (c 37 (v2).toNatClampNeg)) hX dX10_dropTurn_130 rfl hg rfl ?_
      obtain ⟨r9, h1, h⟩ := ob_some h
      refine k_callVI (pc := 131) (st := []) hX ln_10_141 dX10_dropTurn_131 (t_m_isFree (d := 0) (Nat.le_refl _) h1) rfl rfl rfl (by omega) (Nat.le_of_ble_eq_true rfl) ?_
      refine j_if_ne (pc := 134) (tgt := 141) hX dX10_dropTurn_134 (by decide) (fun z => ?_) (fun z => ?_)
      · replace h := ite_f z h
        refine j_sub (lv' := [(0, .ref 30), (1, .int v1), (2, .int v2)]) ⟨rfl, rfl, rfl, trivial⟩ ?_
        exact tj_m_dropTurn_P141 hX hdp hE _ _ _ h
      · replace h := ite_t z h
        refine j_iconst (pc := 137) (v := (1 : Int32)) hX dX10_dropTurn_137 (by decide) ?_
        refine j_goto (pc := 138) (tgt := 142) hX dX10_dropTurn_138 (by decide) ?_
        refine j_sub (lv' := [(0, .ref 30), (1, .int v1), (2, .int v2)]) ⟨rfl, rfl, rfl, trivial⟩ ?_
        exact tj_m_dropTurn_P142 hX hdp hE _ _ _ _ h
  · replace h := ite_f z h
    refine j_aload_n (pc := 95) hX dX10_dropTurn_95 rfl rfl ?_
    refine j_aload_n (pc := 96) hX dX10_dropTurn_96 rfl rfl ?_
    refine j_iload_n (pc := 97) hX dX10_dropTurn_97 rfl rfl ?_
    refine j_iload_n (pc := 98) hX dX10_dropTurn_98 rfl rfl ?_
    obtain ⟨r10, h1, h⟩ := ob_some h
    refine k_callVI (pc := 99) (st := [.ref 30]) hX ln_10_126 dX10_dropTurn_99 (t_m_part (d := 0) (Nat.le_refl _) h1) rfl rfl rfl (by omega) (Nat.le_of_ble_eq_true rfl) ?_
    obtain ⟨_u, c11, h1, h⟩ := bd_some h
    refine k_callVV (pc := 102) (st := []) hX ln_10_154 dX10_dropTurn_102 (t_m_push (d := 0) (Nat.le_refl _) h1) rfl rfl rfl (by omega) (Nat.le_of_ble_eq_true rfl) ?_
    refine j_goto (pc := 105) (tgt := 201) hX dX10_dropTurn_105 (by decide) ?_
    obtain ⟨_, h⟩ := Prod.mk.inj (Option.some.inj h)
    subst h
    exact j_vret (pc := 201) hX hE dX10_dropTurn_201 (Nat.le_refl 0) (Nat.le_refl 0) ⟨rfl, rfl, rfl⟩
set_option maxHeartbeats 4000000 in
set_option maxRecDepth 100000 in
theorem t_m_dropTurn {l : Launch} {D : va_G} {G : Nat → ClassId} {d : Nat} (hdp : 3 ≤ d) {c r : jS} {cE : jS} (h : m_dropTurn c = some ((), cE)) : jC l D G d M_m_dropTurn [.ref 30] (jmix r c) none (jmix r cE) := by
  refine jM_of rfl (Nat.le_of_ble_eq_true rfl) ?_
  intro X hl hD hG _ _ hX hE _
  subst hl hD hG
  unfold m_dropTurn at h
  show J X 0 0 jN (jE (jmix r c)) [(0, .ref 30)] [] 0
  refine j_aload_n (pc := 0) hX dX10_dropTurn_0 rfl rfl ?_
  refine k_getI (pc := 1) (x := (c 30 14)) hX fl_10_145 dX10_dropTurn_1 rfl rfl rfl ?_
  refine j_iconst (pc := 4) (v := (1 : Int32)) hX dX10_dropTurn_4 (by decide) ?_
  refine j_isub (pc := 5) hX dX10_dropTurn_5 ?_
  refine j_istore_n (pc := 6) hX dX10_dropTurn_6 rfl (by decide) (by decide) ?_
  refine j_aload_n (pc := 7) hX dX10_dropTurn_7 rfl rfl ?_
  refine k_getR (pc := 8) (q := 43) hX fl_10_54 dX10_dropTurn_8 rfl rfl ?_
  refine j_iload_n (pc := 11) hX dX10_dropTurn_11 rfl rfl ?_
  obtain ⟨hg, h⟩ := gd_some h
  refine k_iald (pc := 12) (x := (c 43 (((c 30 14) - (1 : Int32))).toNatClampNeg)) hX dX10_dropTurn_12 rfl hg rfl ?_
  refine j_istore_n (pc := 13) hX dX10_dropTurn_13 rfl (by decide) (by decide) ?_
  refine j_aload_n (pc := 14) hX dX10_dropTurn_14 rfl rfl ?_
  refine k_getR (pc := 15) (q := 44) hX fl_10_57 dX10_dropTurn_15 rfl rfl ?_
  refine j_iload_n (pc := 18) hX dX10_dropTurn_18 rfl rfl ?_
  obtain ⟨hg, h⟩ := gd_some h
  refine k_iald (pc := 19) (x := (c 44 (((c 30 14) - (1 : Int32))).toNatClampNeg)) hX dX10_dropTurn_19 rfl hg rfl ?_
  refine j_istore_n (pc := 20) hX dX10_dropTurn_20 rfl (by decide) (by decide) ?_
  refine j_aload_n (pc := 21) hX dX10_dropTurn_21 rfl rfl ?_
  refine k_getR (pc := 22) (q := 44) hX fl_10_57 dX10_dropTurn_22 rfl rfl ?_
  refine j_iload_n (pc := 25) hX dX10_dropTurn_25 rfl rfl ?_
  refine j_dup2 (pc := 26) hX dX10_dropTurn_26 rfl rfl ?_
  obtain ⟨hg, h⟩ := gd_some h
  refine k_iald (pc := 27) (x := (c 44 (((c 30 14) - (1 : Int32))).toNatClampNeg)) hX dX10_dropTurn_27 rfl hg rfl ?_
  refine j_iconst (pc := 28) (v := (1 : Int32)) hX dX10_dropTurn_28 (by decide) ?_
  refine j_iadd (pc := 29) hX dX10_dropTurn_29 ?_
  obtain ⟨hg, h⟩ := gd_some h
  obtain ⟨c1, hc, h⟩ := lt_some h
  refine k_iast (pc := 30) (c' := jmix r c1) hX dX10_dropTurn_30 rfl hg (jmix_me rfl hc) ?_
  refine j_iload_n (pc := 31) hX dX10_dropTurn_31 rfl rfl ?_
  refine j_iconst (pc := 32) (v := (1 : Int32)) hX dX10_dropTurn_32 (by decide) ?_
  refine j_icmp_ne (pc := 33) (tgt := 49) hX dX10_dropTurn_33 (by decide) (fun z => ?_) (fun z => ?_)
  · replace h := ite_f z h
    refine j_iload_n (pc := 49) hX dX10_dropTurn_49 rfl rfl ?_
    refine j_iconst (pc := 50) (v := (2 : Int32)) hX dX10_dropTurn_50 (by decide) ?_
    refine j_icmp_ne (pc := 51) (tgt := 67) hX dX10_dropTurn_51 (by decide) (fun z => ?_) (fun z => ?_)
    · replace h := ite_f z h
      refine j_iload_n (pc := 67) hX dX10_dropTurn_67 rfl rfl ?_
      refine j_iconst (pc := 68) (v := (3 : Int32)) hX dX10_dropTurn_68 (by decide) ?_
      refine j_icmp_ne (pc := 69) (tgt := 82) hX dX10_dropTurn_69 (by decide) (fun z => ?_) (fun z => ?_)
      · replace h := ite_f z h
        refine j_sub (lv' := [(0, .ref 30), (1, .int ((c 30 14) - (1 : Int32))), (2, .int (c 43 (((c 30 14) - (1 : Int32))).toNatClampNeg)), (3, .int (c 44 (((c 30 14) - (1 : Int32))).toNatClampNeg))]) ⟨rfl, rfl, rfl, rfl, trivial⟩ ?_
        exact tj_m_dropTurn_P82 hX hdp hE _ _ _ _ h
      · replace h := ite_t z h
        refine j_aload_n (pc := 72) hX dX10_dropTurn_72 rfl rfl ?_
        refine k_getR (pc := 73) (q := 47) hX fl_10_66 dX10_dropTurn_73 rfl rfl ?_
        refine j_iload_n (pc := 76) hX dX10_dropTurn_76 rfl rfl ?_
        refine j_aload_n (pc := 77) hX dX10_dropTurn_77 rfl rfl ?_
        refine k_getI (pc := 78) (x := (c1 30 22)) hX fl_10_151 dX10_dropTurn_78 rfl rfl rfl ?_
        obtain ⟨hg, h⟩ := gd_some h
        obtain ⟨c12, hc, h⟩ := lt_some h
        refine k_iast (pc := 81) (c' := jmix r c12) hX dX10_dropTurn_81 rfl hg (jmix_me rfl hc) ?_
        refine j_sub (lv' := [(0, .ref 30), (1, .int ((c 30 14) - (1 : Int32))), (2, .int (c 43 (((c 30 14) - (1 : Int32))).toNatClampNeg)), (3, .int (c 44 (((c 30 14) - (1 : Int32))).toNatClampNeg))]) ⟨rfl, rfl, rfl, rfl, trivial⟩ ?_
        exact tj_m_dropTurn_P82 hX hdp hE _ _ _ _ h
    · replace h := ite_t z h
      refine j_aload_n (pc := 54) hX dX10_dropTurn_54 rfl rfl ?_
      refine k_getR (pc := 55) (q := 46) hX fl_10_63 dX10_dropTurn_55 rfl rfl ?_
      refine j_iload_n (pc := 58) hX dX10_dropTurn_58 rfl rfl ?_
      refine j_aload_n (pc := 59) hX dX10_dropTurn_59 rfl rfl ?_
      refine k_getI (pc := 60) (x := (c1 30 22)) hX fl_10_151 dX10_dropTurn_60 rfl rfl rfl ?_
      obtain ⟨hg, h⟩ := gd_some h
      obtain ⟨c13, hc, h⟩ := lt_some h
      refine k_iast (pc := 63) (c' := jmix r c13) hX dX10_dropTurn_63 rfl hg (jmix_me rfl hc) ?_
      refine j_goto (pc := 64) (tgt := 82) hX dX10_dropTurn_64 (by decide) ?_
      refine j_sub (lv' := [(0, .ref 30), (1, .int ((c 30 14) - (1 : Int32))), (2, .int (c 43 (((c 30 14) - (1 : Int32))).toNatClampNeg)), (3, .int (c 44 (((c 30 14) - (1 : Int32))).toNatClampNeg))]) ⟨rfl, rfl, rfl, rfl, trivial⟩ ?_
      exact tj_m_dropTurn_P82 hX hdp hE _ _ _ _ h
  · replace h := ite_t z h
    refine j_aload_n (pc := 36) hX dX10_dropTurn_36 rfl rfl ?_
    refine k_getR (pc := 37) (q := 45) hX fl_10_60 dX10_dropTurn_37 rfl rfl ?_
    refine j_iload_n (pc := 40) hX dX10_dropTurn_40 rfl rfl ?_
    refine j_aload_n (pc := 41) hX dX10_dropTurn_41 rfl rfl ?_
    refine k_getI (pc := 42) (x := (c1 30 22)) hX fl_10_151 dX10_dropTurn_42 rfl rfl rfl ?_
    obtain ⟨hg, h⟩ := gd_some h
    obtain ⟨c14, hc, h⟩ := lt_some h
    refine k_iast (pc := 45) (c' := jmix r c14) hX dX10_dropTurn_45 rfl hg (jmix_me rfl hc) ?_
    refine j_goto (pc := 46) (tgt := 82) hX dX10_dropTurn_46 (by decide) ?_
    refine j_sub (lv' := [(0, .ref 30), (1, .int ((c 30 14) - (1 : Int32))), (2, .int (c 43 (((c 30 14) - (1 : Int32))).toNatClampNeg)), (3, .int (c 44 (((c 30 14) - (1 : Int32))).toNatClampNeg))]) ⟨rfl, rfl, rfl, rfl, trivial⟩ ?_
    exact tj_m_dropTurn_P82 hX hdp hE _ _ _ _ h

set_option maxHeartbeats 4000000 in
set_option maxRecDepth 100000 in
theorem tj_m_drop_P53_30 {X : jX} {d : Nat} {r : jS} {vE : Int32} {cE : jS} (hX : jOk X RX10 cX10_drop 3 d) (hdp : 4 ≤ d) (hE : jEnd X (some .int) 0 0 (fun r0 n0 h0 => r0 = (some (.int vE)) ∧ n0 = jN ∧ h0 = jE (jmix r cE))) {k_30 : Nat} (ih_30 : ∀ (v2 : Int32) (c : jS), lpk (fun s : (Int32 × jS) => m_drop_S30 s.1 s.2) k_30 (v2, c) = some (vE, cE) → J X 0 0 jN (jE (jmix r c)) [(0, .ref 30), (2, .int v2)] [] 30) : ∀ (v2 : Int32) (c : jS), lq (fun s : (Int32 × jS) => m_drop_S30 s.1 s.2) k_30 (vE, cE) (m_drop_P53_30 v2 c) → J X 0 0 jN (jE (jmix r c)) [(0, .ref 30), (2, .int v2)] [] 53 := by
  intro v2 c h
  conv at h => arg 4; unfold m_drop_P53_30
  refine j_aload_n (pc := 53) hX dX10_drop_53 rfl rfl ?_
  refine j_aload_n (pc := 54) hX dX10_drop_54 rfl rfl ?_
  refine k_getI (pc := 55) (x := (c 30 22)) hX fl_10_151 dX10_drop_55 rfl rfl rfl ?_
  refine j_bipush (pc := 58) (v := (-3 : Int32)) hX dX10_drop_58 (by decide) ?_
  refine j_icmp_ne (pc := 60) (tgt := 67) hX dX10_drop_60 (by decide) (fun z => ?_) (fun z => ?_)
  · replace h := lq_f z h
    refine j_aload_n (pc := 67) hX dX10_drop_67 rfl rfl ?_
    refine k_getI (pc := 68) (x := (c 30 5)) hX fl_10_119 dX10_drop_68 rfl rfl rfl ?_
    obtain ⟨c5, hc, h⟩ := lq_lt h
    refine k_putI (pc := 71) (c' := jmix r c5) hX pfl_10_119 dX10_drop_71 rfl rfl (fun _ => ⟨rfl, rfl⟩) (jmix_me rfl hc) ?_
    refine j_aload_n (pc := 74) hX dX10_drop_74 rfl rfl ?_
    refine k_getI (pc := 75) (x := (c5 30 22)) hX fl_10_151 dX10_drop_75 rfl rfl rfl ?_
    replace h := lq_r h
    obtain ⟨h, h0⟩ := Prod.mk.inj (Option.some.inj h)
    subst h h0
    exact j_iret (pc := 78) hX hE rfl rfl dX10_drop_78 (Nat.le_refl 0) (Nat.le_refl 0) ⟨rfl, rfl, rfl⟩
  · replace h := lq_t z h
    refine j_iload_n (pc := 63) hX dX10_drop_63 rfl rfl ?_
    refine j_goto (pc := 64) (tgt := 71) hX dX10_drop_64 (by decide) ?_
    obtain ⟨c6, hc, h⟩ := lq_lt h
    refine k_putI (pc := 71) (c' := jmix r c6) hX pfl_10_119 dX10_drop_71 rfl rfl (fun _ => ⟨rfl, rfl⟩) (jmix_me rfl hc) ?_
    refine j_aload_n (pc := 74) hX dX10_drop_74 rfl rfl ?_
    refine k_getI (pc := 75) (x := (c6 30 22)) hX fl_10_151 dX10_drop_75 rfl rfl rfl ?_
    replace h := lq_r h
    obtain ⟨h, h0⟩ := Prod.mk.inj (Option.some.inj h)
    subst h h0
    exact j_iret (pc := 78) hX hE rfl rfl dX10_drop_78 (Nat.le_refl 0) (Nat.le_refl 0) ⟨rfl, rfl, rfl⟩
set_option maxHeartbeats 4000000 in
set_option maxRecDepth 100000 in
theorem tl_m_drop_L30 {X : jX} {d : Nat} {r : jS} {vE : Int32} {cE : jS} (hX : jOk X RX10 cX10_drop 3 d) (hdp : 4 ≤ d) (hE : jEnd X (some .int) 0 0 (fun r0 n0 h0 => r0 = (some (.int vE)) ∧ n0 = jN ∧ h0 = jE (jmix r cE))) : ∀ (v2 : Int32) (c : jS), m_drop_L30 v2 c = some (vE, cE) → J X 0 0 jN (jE (jmix r c)) [(0, .ref 30), (2, .int v2)] [] 30 := by
  intro v2 c h
  unfold m_drop_L30 at h
  replace h := lp_some h
  obtain ⟨k_30, h⟩ := h
  induction k_30 generalizing v2 c with
  | zero => cases h
  | succ k_30 ih_30 =>
    replace h : lq (fun s : (Int32 × jS) => m_drop_S30 s.1 s.2) k_30 (vE, cE) (m_drop_S30 v2 c) := lpk_succ (s := (v2, c)) h
    conv at h => arg 4; unfold m_drop_S30
    refine j_aload_n (pc := 30) hX dX10_drop_30 rfl rfl ?_
    refine k_getI (pc := 31) (x := (c 30 14)) hX fl_10_145 dX10_drop_31 rfl rfl rfl ?_
    refine j_if_le (pc := 34) (tgt := 53) hX dX10_drop_34 (by decide) (fun z => ?_) (fun z => ?_)
    · replace h := lq_t z h
      refine j_sub (lv' := [(0, .ref 30), (2, .int v2)]) ⟨rfl, rfl, trivial⟩ ?_
      exact tj_m_drop_P53_30 hX hdp hE ih_30 _ _ h
    · replace h := lq_f z h
      refine j_aload_n (pc := 37) hX dX10_drop_37 rfl rfl ?_
      refine k_getI (pc := 38) (x := (c 30 22)) hX fl_10_151 dX10_drop_38 rfl rfl rfl ?_
      refine j_bipush (pc := 41) (v := (-3 : Int32)) hX dX10_drop_41 (by decide) ?_
      refine j_icmp_eq (pc := 43) (tgt := 53) hX dX10_drop_43 (by decide) (fun z => ?_) (fun z => ?_)
      · replace h := lq_t z h
        refine j_sub (lv' := [(0, .ref 30), (2, .int v2)]) ⟨rfl, rfl, trivial⟩ ?_
        exact tj_m_drop_P53_30 hX hdp hE ih_30 _ _ h
      · replace h := lq_f z h
        refine j_aload_n (pc := 46) hX dX10_drop_46 rfl rfl ?_
        obtain ⟨_u, c7, h1, h⟩ := lq_bd h
        refine k_callVV (pc := 47) (st := []) hX ln_10_219 dX10_drop_47 (t_m_dropTurn (d := 3) (Nat.le_refl _) h1) rfl rfl rfl (by omega) (Nat.le_of_ble_eq_true rfl) ?_
        refine j_goto (pc := 50) (tgt := 30) hX dX10_drop_50 (by decide) ?_
        refine j_sub (lv' := [(0, .ref 30), (2, .int v2)]) ⟨rfl, rfl, trivial⟩ ?_
        exact ih_30 _ _ (lq_l h)
set_option maxHeartbeats 4000000 in
set_option maxRecDepth 100000 in
theorem t_m_drop {l : Launch} {D : va_G} {G : Nat → ClassId} {d : Nat} (hdp : 4 ≤ d) {c r : jS} {a1 : Int32} {vE : Int32} {cE : jS} (h : m_drop c a1 = some (vE, cE)) : jC l D G d M_m_drop [.ref 30, .int a1] (jmix r c) (some (.int vE)) (jmix r cE) := by
  refine jM_of rfl (Nat.le_of_ble_eq_true rfl) ?_
  intro X hl hD hG _ _ hX hE _
  subst hl hD hG
  unfold m_drop at h
  show J X 0 0 jN (jE (jmix r c)) [(0, .ref 30), (1, .int a1)] [] 0
  refine j_aload_n (pc := 0) hX dX10_drop_0 rfl rfl ?_
  refine j_iload_n (pc := 1) hX dX10_drop_1 rfl rfl ?_
  obtain ⟨r1, h1, h⟩ := ob_some h
  refine k_callVI (pc := 2) (st := []) hX ln_10_136 dX10_drop_2 (t_m_isTerm (d := 1) (Nat.le_refl _) h1) rfl rfl rfl (by omega) (Nat.le_of_ble_eq_true rfl) ?_
  refine j_if_ne (pc := 5) (tgt := 10) hX dX10_drop_5 (by decide) (fun z => ?_) (fun z => ?_)
  · replace h := ite_f z h
    refine j_aload_n (pc := 10) hX dX10_drop_10 rfl rfl ?_
    refine k_getI (pc := 11) (x := (c 30 5)) hX fl_10_119 dX10_drop_11 rfl rfl rfl ?_
    refine j_istore_n (pc := 14) hX dX10_drop_14 rfl (by decide) (by decide) ?_
    refine j_aload_n (pc := 15) hX dX10_drop_15 rfl rfl ?_
    refine j_iconst (pc := 16) (v := (0 : Int32)) hX dX10_drop_16 (by decide) ?_
    obtain ⟨c2, hc, h⟩ := lt_some h
    refine k_putI (pc := 17) (c' := jmix r c2) hX pfl_10_145 dX10_drop_17 rfl rfl (fun _ => ⟨rfl, rfl⟩) (jmix_me rfl hc) ?_
    refine j_aload_n (pc := 20) hX dX10_drop_20 rfl rfl ?_
    refine j_iload_n (pc := 21) hX dX10_drop_21 rfl rfl ?_
    obtain ⟨c3, hc, h⟩ := lt_some h
    refine k_putI (pc := 22) (c' := jmix r c3) hX pfl_10_151 dX10_drop_22 rfl rfl (fun _ => ⟨rfl, rfl⟩) (jmix_me rfl hc) ?_
    refine j_aload_n (pc := 25) hX dX10_drop_25 rfl rfl ?_
    refine j_iload_n (pc := 26) hX dX10_drop_26 rfl rfl ?_
    obtain ⟨_u, c4, h1, h⟩ := bd_some h
    refine k_callVV (pc := 27) (st := []) hX ln_10_154 dX10_drop_27 (t_m_push (d := 0) (Nat.le_refl _) h1) rfl rfl rfl (by omega) (Nat.le_of_ble_eq_true rfl) ?_
    refine j_sub (lv' := [(0, .ref 30), (2, .int (c 30 5))]) ⟨rfl, rfl, trivial⟩ ?_
    exact tl_m_drop_L30 hX hdp hE _ _ h
  · replace h := ite_t z h
    refine j_iconst (pc := 8) (v := (-1 : Int32)) hX dX10_drop_8 (by decide) ?_
    obtain ⟨h, h0⟩ := Prod.mk.inj (Option.some.inj h)
    subst h h0
    exact j_iret (pc := 9) hX hE rfl rfl dX10_drop_9 (Nat.le_refl 0) (Nat.le_refl 0) ⟨rfl, rfl, rfl⟩

set_option maxHeartbeats 4000000 in
set_option maxRecDepth 100000 in
theorem t_m_say {l : Launch} {D : va_G} {G : Nat → ClassId} {d : Nat} (hdp : 0 ≤ d) {c r : jS} {a1 : Int32} {cE : jS} (h : m_say c a1 = some ((), cE)) : jC l D G d M_m_say [.ref 30, .int a1] (jmix r c) none (jmix r cE) := by
  refine jM_of rfl (Nat.le_of_ble_eq_true rfl) ?_
  intro X hl hD hG _ _ hX hE _
  subst hl hD hG
  unfold m_say at h
  show J X 0 0 jN (jE (jmix r c)) [(0, .ref 30), (1, .int a1)] [] 0
  refine j_aload_n (pc := 0) hX dX10_say_0 rfl rfl ?_
  refine k_getI (pc := 1) (x := (c 30 35)) hX fl_10_222 dX10_say_1 rfl rfl rfl ?_
  refine j_sipush (pc := 4) (v := (4000 : Int32)) hX dX10_say_4 (by decide) ?_
  refine j_icmp_ne (pc := 7) (tgt := 16) hX dX10_say_7 (by decide) (fun z => ?_) (fun z => ?_)
  · replace h := ite_f z h
    refine j_aload_n (pc := 16) hX dX10_say_16 rfl rfl ?_
    refine k_getR (pc := 17) (q := 56) hX fl_10_96 dX10_say_17 rfl rfl ?_
    refine j_aload_n (pc := 20) hX dX10_say_20 rfl rfl ?_
    refine k_getI (pc := 21) (x := (c 30 35)) hX fl_10_222 dX10_say_21 rfl rfl rfl ?_
    refine j_iload_n (pc := 24) hX dX10_say_24 rfl rfl ?_
    obtain ⟨hg, h⟩ := gd_some h
    obtain ⟨c1, hc, h⟩ := lt_some h
    refine k_iast (pc := 25) (c' := jmix r c1) hX dX10_say_25 rfl hg (jmix_me rfl hc) ?_
    refine j_aload_n (pc := 26) hX dX10_say_26 rfl rfl ?_
    refine j_dup (pc := 27) hX dX10_say_27 rfl ?_
    refine k_getI (pc := 28) (x := (c1 30 35)) hX fl_10_222 dX10_say_28 rfl rfl rfl ?_
    refine j_iconst (pc := 31) (v := (1 : Int32)) hX dX10_say_31 (by decide) ?_
    refine j_iadd (pc := 32) hX dX10_say_32 ?_
    obtain ⟨c2, hc, h⟩ := lt_some h
    refine k_putI (pc := 33) (c' := jmix r c2) hX pfl_10_222 dX10_say_33 rfl rfl (fun _ => ⟨rfl, rfl⟩) (jmix_me rfl hc) ?_
    obtain ⟨_, h⟩ := Prod.mk.inj (Option.some.inj h)
    subst h
    exact j_vret (pc := 36) hX hE dX10_say_36 (Nat.le_refl 0) (Nat.le_refl 0) ⟨rfl, rfl, rfl⟩
  · replace h := ite_t z h
    refine j_aload_n (pc := 10) hX dX10_say_10 rfl rfl ?_
    refine j_iconst (pc := 11) (v := (1 : Int32)) hX dX10_say_11 (by decide) ?_
    obtain ⟨c3, hc, h⟩ := lt_some h
    refine k_putI (pc := 12) (c' := jmix r c3) hX pfl_10_225 dX10_say_12 rfl rfl (fun _ => ⟨rfl, rfl⟩) (jmix_me rfl hc) ?_
    obtain ⟨_, h⟩ := Prod.mk.inj (Option.some.inj h)
    subst h
    exact j_vret (pc := 15) hX hE dX10_say_15 (Nat.le_refl 0) (Nat.le_refl 0) ⟨rfl, rfl, rfl⟩

