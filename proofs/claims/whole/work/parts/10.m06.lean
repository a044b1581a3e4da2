set_option maxHeartbeats 4000000 in
set_option maxRecDepth 100000 in
theorem tj_m_readNumber_P169_95 {X : jX} {d : Nat} {r : jS} {cE : jS} (hX : jOk X RX10 cX10_readNumber 7 d) (hdp : 2 ≤ d) (hE : jEnd X none 0 0 (fun r0 n0 h0 => r0 = none ∧ n0 = jN ∧ h0 = jE (jmix r cE))) {k_95 : Nat} (ih_95 : ∀ (v1 : Int32) (v3 : Int64) (v5 : Int64) (c : jS), lpk (fun s : (Int32 × Int64 × Int64 × jS) => m_readNumber_S95 s.1 s.2.1 s.2.2.1 s.2.2.2) k_95 (v1, v3, v5, c) = some ((), cE) → J X 0 0 jN (jE (jmix r c)) [(0, .ref 30), (1, .int v1), (3, .long v3), (5, .long v5)] [] 95) : ∀ (v1 : Int32) (v5 : Int64) (c : jS), lq (fun s : (Int32 × Int64 × Int64 × jS) => m_readNumber_S95 s.1 s.2.1 s.2.2.1 s.2.2.2) k_95 ((), cE) (m_readNumber_P169_95 v1 v5 c) → J X 0 0 jN (jE (jmix r c)) [(0, .ref 30), (1, .int v1), (5, .long v5)] [] 169 := by
  intro v1 v5 c h
  conv at h => arg 4; unfold m_readNumber_P169_95
  refine j_aload_n (pc := 169) hX dX10_readNumber_169 rfl rfl ?_
  refine k_getI (pc := 170) (x := (c 30 42)) hX fl_10_254 dX10_readNumber_170 rfl rfl rfl ?_
  refine j_if_ne (pc := 173) (tgt := 208) hX dX10_readNumber_173 (by decide) (fun z => ?_) (fun z => ?_)
  · replace h := lq_f z h
    replace h := lq_r h
    obtain ⟨_, h⟩ := Prod.mk.inj (Option.some.inj h)
    subst h
    exact j_vret (pc := 208) hX hE dX10_readNumber_208 (Nat.le_refl 0) (Nat.le_refl 0) ⟨rfl, rfl, rfl⟩
  · replace h := lq_t z h
    refine j_aload_n (pc := 176) hX dX10_readNumber_176 rfl rfl ?_
    refine j_aload_n (pc := 177) hX dX10_readNumber_177 rfl rfl ?_
    refine j_iconst (pc := 178) (v := (0 : Int32)) hX dX10_readNumber_178 (by decide) ?_
    refine j_iload_n (pc := 179) hX dX10_readNumber_179 rfl rfl ?_
    refine j_if_eq (pc := 180) (tgt := 189) hX dX10_readNumber_180 (by decide) (fun z => ?_) (fun z => ?_)
    · replace h := lq_t z h
      refine j_lload (pc := 189) hX dX10_readNumber_189 rfl ?_
      refine j_l2i (pc := 191) hX dX10_readNumber_191 ?_
      refine j_bipush (pc := 192) (v := (-2 : Int32)) hX dX10_readNumber_192 (by decide) ?_
      refine j_bipush (pc := 194) (v := (-2 : Int32)) hX dX10_readNumber_194 (by decide) ?_
      refine j_bipush (pc := 196) (v := (-2 : Int32)) hX dX10_readNumber_196 (by decide) ?_
      refine j_bipush (pc := 198) (v := (-2 : Int32)) hX dX10_readNumber_198 (by decide) ?_
      refine j_bipush (pc := 200) (v := (-2 : Int32)) hX dX10_readNumber_200 (by decide) ?_
      obtain ⟨r6, c7, h1, h⟩ := lq_bd h
      refine k_callVI (pc := 202) (st := [.ref 30]) hX ln_10_132 dX10_readNumber_202 (t_m_make (d := 1) (Nat.le_refl _) h1) rfl rfl rfl (by omega) (Nat.le_of_ble_eq_true rfl) ?_
      obtain ⟨_u, c8, h1, h⟩ := lq_bd h
      refine k_callVV (pc := 205) (st := []) hX ln_10_270 dX10_readNumber_205 (t_m_made (d := 0) (Nat.le_refl _) h1) rfl rfl rfl (by omega) (Nat.le_of_ble_eq_true rfl) ?_
      replace h := lq_r h
      obtain ⟨_, h⟩ := Prod.mk.inj (Option.some.inj h)
      subst h
      exact j_vret (pc := 208) hX hE dX10_readNumber_208 (Nat.le_refl 0) (Nat.le_refl 0) ⟨rfl, rfl, rfl⟩
    · replace h := lq_f z h
      refine j_lload (pc := 183) hX dX10_readNumber_183 rfl ?_
      refine j_lneg (pc := 185) hX dX10_readNumber_185 ?_
      refine j_goto (pc := 186) (tgt := 191) hX dX10_readNumber_186 (by decide) ?_
      refine j_l2i (pc := 191) hX dX10_readNumber_191 ?_
      refine j_bipush (pc := 192) (v := (-2 : Int32)) hX dX10_readNumber_192 (by decide) ?_
      refine j_bipush (pc := 194) (v := (-2 : Int32)) hX dX10_readNumber_194 (by decide) ?_
      refine j_bipush (pc := 196) (v := (-2 : Int32)) hX dX10_readNumber_196 (by decide) ?_
      refine j_bipush (pc := 198) (v := (-2 : Int32)) hX dX10_readNumber_198 (by decide) ?_
      refine j_bipush (pc := 200) (v := (-2 : Int32)) hX dX10_readNumber_200 (by decide) ?_
      obtain ⟨r9, c10, h1, h⟩ := lq_bd h
      refine k_callVI (pc := 202) (st := [.ref 30]) hX ln_10_132 dX10_readNumber_202 (t_m_make (d := 1) (Nat.le_refl _) h1) rfl rfl rfl (by omega) (Nat.le_of_ble_eq_true rfl) ?_
      obtain ⟨_u, c11, h1, h⟩ := lq_bd h
      refine k_callVV (pc := 205) (st := []) hX ln_10_270 dX10_readNumber_205 (t_m_made (d := 0) (Nat.le_refl _) h1) rfl rfl rfl (by omega) (Nat.le_of_ble_eq_true rfl) ?_
      replace h := lq_r h
      obtain ⟨_, h⟩ := Prod.mk.inj (Option.some.inj h)
      subst h
      exact j_vret (pc := 208) hX hE dX10_readNumber_208 (Nat.le_refl 0) (Nat.le_refl 0) ⟨rfl, rfl, rfl⟩
set_option maxHeartbeats 4000000 in
set_option maxRecDepth 100000 in
theorem tl_m_readNumber_L95 {X : jX} {d : Nat} {r : jS} {cE : jS} (hX : jOk X RX10 cX10_readNumber 7 d) (hdp : 2 ≤ d) (hE : jEnd X none 0 0 (fun r0 n0 h0 => r0 = none ∧ n0 = jN ∧ h0 = jE (jmix r cE))) : ∀ (v1 : Int32) (v3 : Int64) (v5 : Int64) (c : jS), m_readNumber_L95 v1 v3 v5 c = some ((), cE) → J X 0 0 jN (jE (jmix r c)) [(0, .ref 30), (1, .int v1), (3, .long v3), (5, .long v5)] [] 95 := by
  intro v1 v3 v5 c h
  unfold m_readNumber_L95 at h
  replace h := lp_some h
  obtain ⟨k_95, h⟩ := h
  induction k_95 generalizing v1 v3 v5 c with
  | zero => cases h
  | succ k_95 ih_95 =>
    replace h : lq (fun s : (Int32 × Int64 × Int64 × jS) => m_readNumber_S95 s.1 s.2.1 s.2.2.1 s.2.2.2) k_95 ((), cE) (m_readNumber_S95 v1 v3 v5 c) := lpk_succ (s := (v1, v3, v5, c)) h
    conv at h => arg 4; unfold m_readNumber_S95
    refine j_lload (pc := 95) hX dX10_readNumber_95 rfl ?_
    refine j_lconst (pc := 97) (v := (0 : Int64)) hX dX10_readNumber_97 (by decide) ?_
    refine j_lcmp (pc := 98) hX dX10_readNumber_98 ?_
    refine j_if_le (pc := 99) (tgt := 169) hX dX10_readNumber_99 (by decide) (fun z => ?_) (fun z => ?_)
    · replace h := lq_t z h
      refine j_sub (lv' := [(0, .ref 30), (1, .int v1), (5, .long v5)]) ⟨rfl, rfl, rfl, trivial⟩ ?_
      exact tj_m_readNumber_P169_95 hX hdp hE ih_95 _ _ _ h
    · replace h := lq_f z h
      refine j_aload_n (pc := 102) hX dX10_readNumber_102 rfl rfl ?_
      obtain ⟨r12, h1, h⟩ := lq_ob h
      refine k_callVI (pc := 103) (st := []) hX ln_10_257 dX10_readNumber_103 (t_m_byteHere (d := 0) (Nat.le_refl _) h1) rfl rfl rfl (by omega) (Nat.le_of_ble_eq_true rfl) ?_
      refine j_bipush (pc := 106) (v := (48 : Int32)) hX dX10_readNumber_106 (by decide) ?_
      refine j_bipush (pc := 108) (v := (57 : Int32)) hX dX10_readNumber_108 (by decide) ?_
      obtain ⟨r13, h1, h⟩ := lq_ob h
      refine k_callSI (pc := 110) (st := []) hX ln_10_3 dX10_readNumber_110 (t_m_in (d := 0) (Nat.le_refl _) h1) rfl rfl (by omega) (Nat.le_of_ble_eq_true rfl) ?_
      refine j_if_eq (pc := 113) (tgt := 169) hX dX10_readNumber_113 (by decide) (fun z => ?_) (fun z => ?_)
      · replace h := lq_t z h
        refine j_sub (lv' := [(0, .ref 30), (1, .int v1), (5, .long v5)]) ⟨rfl, rfl, rfl, trivial⟩ ?_
        exact tj_m_readNumber_P169_95 hX hdp hE ih_95 _ _ _ h
      · replace h := lq_f z h
        refine j_aload_n (pc := 116) hX dX10_readNumber_116 rfl rfl ?_
        refine k_getI (pc := 117) (x := (c 30 42)) hX fl_10_254 dX10_readNumber_117 rfl rfl rfl ?_
        refine j_if_ne (pc := 120) (tgt := 169) hX dX10_readNumber_120 (by decide) (fun z => ?_) (fun z => ?_)
        · replace h := lq_f z h
          refine j_sub (lv' := [(0, .ref 30), (1, .int v1), (5, .long v5)]) ⟨rfl, rfl, rfl, trivial⟩ ?_
          exact tj_m_readNumber_P169_95 hX hdp hE ih_95 _ _ _ h
        · replace h := lq_t z h
          refine j_ldc2 (pc := 123) (v := (10 : Int64)) hX dX10_readNumber_123 (mr_36 _ (List.mem_of_getElem? (i := 2) rfl)) ?_
          refine j_lload (pc := 126) hX dX10_readNumber_126 rfl ?_
          refine j_lmul (pc := 128) hX dX10_readNumber_128 ?_
          refine j_aload_n (pc := 129) hX dX10_readNumber_129 rfl rfl ?_
          obtain ⟨r14, h1, h⟩ := lq_ob h
          refine k_callVI (pc := 130) (st := [.long ((10 : Int64) * v5)]) hX ln_10_257 dX10_readNumber_130 (t_m_byteHere (d := 0) (Nat.le_refl _) h1) rfl rfl rfl (by omega) (Nat.le_of_ble_eq_true rfl) ?_
          refine j_i2l (pc := 133) hX dX10_readNumber_133 ?_
          refine j_ladd (pc := 134) hX dX10_readNumber_134 ?_
          refine j_ldc2 (pc := 135) (v := (48 : Int64)) hX dX10_readNumber_135 (mr_43 _ (List.mem_of_getElem? (i := 8) rfl)) ?_
          refine j_lsub (pc := 138) hX dX10_readNumber_138 ?_
          refine j_lstore (pc := 139) hX dX10_readNumber_139 (by decide) (by decide) ?_
          refine j_lload (pc := 141) hX dX10_readNumber_141 rfl ?_
          refine j_lload_n (pc := 143) hX dX10_readNumber_143 rfl rfl ?_
          refine j_lcmp (pc := 144) hX dX10_readNumber_144 ?_
          refine j_if_le (pc := 145) (tgt := 156) hX dX10_readNumber_145 (by decide) (fun z => ?_) (fun z => ?_)
          · replace h := lq_t z h
            refine j_aload_n (pc := 156) hX dX10_readNumber_156 rfl rfl ?_
            refine j_dup (pc := 157) hX dX10_readNumber_157 rfl ?_
            refine k_getI (pc := 158) (x := (c 30 41)) hX fl_10_251 dX10_readNumber_158 rfl rfl rfl ?_
            refine j_iconst (pc := 161) (v := (1 : Int32)) hX dX10_readNumber_161 (by decide) ?_
            refine j_iadd (pc := 162) hX dX10_readNumber_162 ?_
            obtain ⟨c15, hc, h⟩ := lq_lt h
            refine k_putI (pc := 163) (c' := jmix r c15) hX pfl_10_251 dX10_readNumber_163 rfl rfl (fun _ => ⟨rfl, rfl⟩) (jmix_me rfl hc) ?_
            refine j_goto (pc := 166) (tgt := 95) hX dX10_readNumber_166 (by decide) ?_
            refine j_sub (lv' := [(0, .ref 30), (1, .int v1), (3, .long v3), (5, .long ((((10 : Int64) * v5) + r14.toInt64) - (48 : Int64)))]) ⟨rfl, rfl, rfl, rfl, trivial⟩ ?_
            exact ih_95 _ _ _ _ (lq_l h)
          · replace h := lq_f z h
            refine j_aload_n (pc := 148) hX dX10_readNumber_148 rfl rfl ?_
            refine j_iconst (pc := 149) (v := (1 : Int32)) hX dX10_readNumber_149 (by decide) ?_
            obtain ⟨c16, hc, h⟩ := lq_lt h
            refine k_putI (pc := 150) (c' := jmix r c16) hX pfl_10_254 dX10_readNumber_150 rfl rfl (fun _ => ⟨rfl, rfl⟩) (jmix_me rfl hc) ?_
            refine j_goto (pc := 153) (tgt := 95) hX dX10_readNumber_153 (by decide) ?_
            refine j_sub (lv' := [(0, .ref 30), (1, .int v1), (3, .long v3), (5, .long ((((10 : Int64) * v5) + r14.toInt64) - (48 : Int64)))]) ⟨rfl, rfl, rfl, rfl, trivial⟩ ?_
            exact ih_95 _ _ _ _ (lq_l h)
set_option maxHeartbeats 4000000 in
set_option maxRecDepth 100000 in
theorem tj_m_readNumber_P77 {X : jX} {d : Nat} {r : jS} {cE : jS} (hX : jOk X RX10 cX10_readNumber 7 d) (hdp : 2 ≤ d) (hE : jEnd X none 0 0 (fun r0 n0 h0 => r0 = none ∧ n0 = jN ∧ h0 = jE (jmix r cE))) : ∀ (v1 : Int32) (v2 : Int32) (s0 : Int64) (c : jS), m_readNumber_P77 v1 v2 s0 c = some ((), cE) → J X 0 0 jN (jE (jmix r c)) [(0, .ref 30), (1, .int v1), (2, .int v2)] [.long s0] 77 := by
  intro v1 v2 s0 c h
  unfold m_readNumber_P77 at h
  refine j_lstore_n (pc := 77) hX dX10_readNumber_77 rfl (by decide) (by decide) ?_
  refine j_iload_n (pc := 78) hX dX10_readNumber_78 rfl rfl ?_
  refine j_bipush (pc := 79) (v := (48 : Int32)) hX dX10_readNumber_79 (by decide) ?_
  refine j_isub (pc := 81) hX dX10_readNumber_81 ?_
  refine j_i2l (pc := 82) hX dX10_readNumber_82 ?_
  refine j_lstore (pc := 83) hX dX10_readNumber_83 (by decide) (by decide) ?_
  refine j_aload_n (pc := 85) hX dX10_readNumber_85 rfl rfl ?_
  refine j_dup (pc := 86) hX dX10_readNumber_86 rfl ?_
  refine k_getI (pc := 87) (x := (c 30 41)) hX fl_10_251 dX10_readNumber_87 rfl rfl rfl ?_
  refine j_iconst (pc := 90) (v := (1 : Int32)) hX dX10_readNumber_90 (by decide) ?_
  refine j_iadd (pc := 91) hX dX10_readNumber_91 ?_
  obtain ⟨c5, hc, h⟩ := lt_some h
  refine k_putI (pc := 92) (c' := jmix r c5) hX pfl_10_251 dX10_readNumber_92 rfl rfl (fun _ => ⟨rfl, rfl⟩) (jmix_me rfl hc) ?_
  refine j_sub (lv' := [(0, .ref 30), (1, .int v1), (3, .long s0), (5, .long (v2 - (48 : Int32)).toInt64)]) ⟨rfl, rfl, rfl, rfl, trivial⟩ ?_
  exact tl_m_readNumber_L95 hX hdp hE _ _ _ _ h
set_option maxHeartbeats 4000000 in
set_option maxRecDepth 100000 in
theorem tj_m_readNumber_P50 {X : jX} {d : Nat} {r : jS} {cE : jS} (hX : jOk X RX10 cX10_readNumber 7 d) (hdp : 2 ≤ d) (hE : jEnd X none 0 0 (fun r0 n0 h0 => r0 = none ∧ n0 = jN ∧ h0 = jE (jmix r cE))) : ∀ (v1 : Int32) (v2 : Int32) (s0 : Int32) (s1 : Int32) (c : jS), m_readNumber_P50 v1 v2 s0 s1 c = some ((), cE) → J X 0 0 jN (jE (jmix r c)) [(0, .ref 30), (1, .int v1), (2, .int v2)] [.int s1, .int s0] 50 := by
  intro v1 v2 s0 s1 c h
  unfold m_readNumber_P50 at h
  refine j_bipush (pc := 50) (v := (57 : Int32)) hX dX10_readNumber_50 (by decide) ?_
  obtain ⟨r4, h1, h⟩ := ob_some h
  refine k_callSI (pc := 52) (st := []) hX ln_10_3 dX10_readNumber_52 (t_m_in (d := 0) (Nat.le_refl _) h1) rfl rfl (by omega) (Nat.le_of_ble_eq_true rfl) ?_
  refine j_if_ne (pc := 55) (tgt := 64) hX dX10_readNumber_55 (by decide) (fun z => ?_) (fun z => ?_)
  · replace h := ite_f z h
    refine j_iload_n (pc := 64) hX dX10_readNumber_64 rfl rfl ?_
    refine j_if_eq (pc := 65) (tgt := 74) hX dX10_readNumber_65 (by decide) (fun z => ?_) (fun z => ?_)
    · replace h := ite_t z h
      refine j_ldc2 (pc := 74) (v := (2147483647 : Int64)) hX dX10_readNumber_74 (mr_43 _ (List.mem_of_getElem? (i := 7) rfl)) ?_
      refine j_sub (lv' := [(0, .ref 30), (1, .int v1), (2, .int v2)]) ⟨rfl, rfl, rfl, trivial⟩ ?_
      exact tj_m_readNumber_P77 hX hdp hE _ _ _ _ h
    · replace h := ite_f z h
      refine j_ldc2 (pc := 68) (v := (2147483648 : Int64)) hX dX10_readNumber_68 (mr_43 _ (List.mem_of_getElem? (i := 6) rfl)) ?_
      refine j_goto (pc := 71) (tgt := 77) hX dX10_readNumber_71 (by decide) ?_
      refine j_sub (lv' := [(0, .ref 30), (1, .int v1), (2, .int v2)]) ⟨rfl, rfl, rfl, trivial⟩ ?_
      exact tj_m_readNumber_P77 hX hdp hE _ _ _ _ h
  · replace h := ite_t z h
    refine j_aload_n (pc := 58) hX dX10_readNumber_58 rfl rfl ?_
    refine j_iconst (pc := 59) (v := (1 : Int32)) hX dX10_readNumber_59 (by decide) ?_
    obtain ⟨c17, hc, h⟩ := lt_some h
    refine k_putI (pc := 60) (c' := jmix r c17) hX pfl_10_254 dX10_readNumber_60 rfl rfl (fun _ => ⟨rfl, rfl⟩) (jmix_me rfl hc) ?_
    obtain ⟨_, h⟩ := Prod.mk.inj (Option.some.inj h)
    subst h
    exact j_vret (pc := 63) hX hE dX10_readNumber_63 (Nat.le_refl 0) (Nat.le_refl 0) ⟨rfl, rfl, rfl⟩
set_option maxHeartbeats 4000000 in
set_option maxRecDepth 100000 in
theorem tj_m_readNumber_P29 {X : jX} {d : Nat} {r : jS} {cE : jS} (hX : jOk X RX10 cX10_readNumber 7 d) (hdp : 2 ≤ d) (hE : jEnd X none 0 0 (fun r0 n0 h0 => r0 = none ∧ n0 = jN ∧ h0 = jE (jmix r cE))) : ∀ (v1 : Int32) (s1 : Int32) (s2 : Int32) (c : jS), m_readNumber_P29 v1 s1 s2 c = some ((), cE) → J X 0 0 jN (jE (jmix r c)) [(0, .ref 30), (1, .int v1)] [.int s2, .int s1, .ref 30] 29 := by
  intro v1 s1 s2 c h
  unfold m_readNumber_P29 at h
  refine j_iadd (pc := 29) hX dX10_readNumber_29 ?_
  obtain ⟨c2, hc, h⟩ := lt_some h
  refine k_putI (pc := 30) (c' := jmix r c2) hX pfl_10_251 dX10_readNumber_30 rfl rfl (fun _ => ⟨rfl, rfl⟩) (jmix_me rfl hc) ?_
  refine j_aload_n (pc := 33) hX dX10_readNumber_33 rfl rfl ?_
  obtain ⟨r3, h1, h⟩ := ob_some h
  refine k_callVI (pc := 34) (st := []) hX ln_10_257 dX10_readNumber_34 (t_m_byteHere (d := 0) (Nat.le_refl _) h1) rfl rfl rfl (by omega) (Nat.le_of_ble_eq_true rfl) ?_
  refine j_istore_n (pc := 37) hX dX10_readNumber_37 rfl (by decide) (by decide) ?_
  refine j_iload_n (pc := 38) hX dX10_readNumber_38 rfl rfl ?_
  refine j_iload_n (pc := 39) hX dX10_readNumber_39 rfl rfl ?_
  refine j_if_eq (pc := 40) (tgt := 48) hX dX10_readNumber_40 (by decide) (fun z => ?_) (fun z => ?_)
  · replace h := ite_t z h
    refine j_bipush (pc := 48) (v := (48 : Int32)) hX dX10_readNumber_48 (by decide) ?_
    refine j_sub (lv' := [(0, .ref 30), (1, .int v1), (2, .int r3)]) ⟨rfl, rfl, rfl, trivial⟩ ?_
    exact tj_m_readNumber_P50 hX hdp hE _ _ _ _ _ h
  · replace h := ite_f z h
    refine j_bipush (pc := 43) (v := (49 : Int32)) hX dX10_readNumber_43 (by decide) ?_
    refine j_goto (pc := 45) (tgt := 50) hX dX10_readNumber_45 (by decide) ?_
    refine j_sub (lv' := [(0, .ref 30), (1, .int v1), (2, .int r3)]) ⟨rfl, rfl, rfl, trivial⟩ ?_
    exact tj_m_readNumber_P50 hX hdp hE _ _ _ _ _ h
set_option maxHeartbeats 4000000 in
set_option maxRecDepth 100000 in
theorem tj_m_readNumber_P14 {X : jX} {d : Nat} {r : jS} {cE : jS} (hX : jOk X RX10 cX10_readNumber 7 d) (hdp : 2 ≤ d) (hE : jEnd X none 0 0 (fun r0 n0 h0 => r0 = none ∧ n0 = jN ∧ h0 = jE (jmix r cE))) : ∀ (s0 : Int32) (c : jS), m_readNumber_P14 s0 c = some ((), cE) → J X 0 0 jN (jE (jmix r c)) [(0, .ref 30)] [.int s0] 14 := by
  intro s0 c h
  unfold m_readNumber_P14 at h
  refine j_istore_n (pc := 14) hX dX10_readNumber_14 rfl (by decide) (by decide) ?_
  refine j_aload_n (pc := 15) hX dX10_readNumber_15 rfl rfl ?_
  refine j_dup (pc := 16) hX dX10_readNumber_16 rfl ?_
  refine k_getI (pc := 17) (x := (c 30 41)) hX fl_10_251 dX10_readNumber_17 rfl rfl rfl ?_
  refine j_iload_n (pc := 20) hX dX10_readNumber_20 rfl rfl ?_
  refine j_if_eq (pc := 21) (tgt := 28) hX dX10_readNumber_21 (by decide) (fun z => ?_) (fun z => ?_)
  · replace h := ite_t z h
    refine j_iconst (pc := 28) (v := (0 : Int32)) hX dX10_readNumber_28 (by decide) ?_
    refine j_sub (lv' := [(0, .ref 30), (1, .int s0)]) ⟨rfl, rfl, trivial⟩ ?_
    exact tj_m_readNumber_P29 hX hdp hE _ _ _ _ h
  · replace h := ite_f z h
    refine j_iconst (pc := 24) (v := (1 : Int32)) hX dX10_readNumber_24 (by decide) ?_
    refine j_goto (pc := 25) (tgt := 29) hX dX10_readNumber_25 (by decide) ?_
    refine j_sub (lv' := [(0, .ref 30), (1, .int s0)]) ⟨rfl, rfl, trivial⟩ ?_
    exact tj_m_readNumber_P29 hX hdp hE _ _ _ _ h
set_option maxHeartbeats 4000000 in
set_option maxRecDepth 100000 in
theorem t_m_readNumber {l : Launch} {D : va_G} {G : Nat → ClassId} {d : Nat} (hdp : 2 ≤ d) {c r : jS} {cE : jS} (h : m_readNumber c = some ((), cE)) : jC l D G d M_m_readNumber [.ref 30] (jmix r c) none (jmix r cE) := by
  refine jM_of rfl (Nat.le_of_ble_eq_true rfl) ?_
  intro X hl hD hG _ _ hX hE _
  subst hl hD hG
  unfold m_readNumber at h
  show J X 0 0 jN (jE (jmix r c)) [(0, .ref 30)] [] 0
  refine j_aload_n (pc := 0) hX dX10_readNumber_0 rfl rfl ?_
  obtain ⟨r1, h1, h⟩ := ob_some h
  refine k_callVI (pc := 1) (st := []) hX ln_10_257 dX10_readNumber_1 (t_m_byteHere (d := 0) (Nat.le_refl _) h1) rfl rfl rfl (by omega) (Nat.le_of_ble_eq_true rfl) ?_
  refine j_bipush (pc := 4) (v := (45 : Int32)) hX dX10_readNumber_4 (by decide) ?_
  refine j_icmp_ne (pc := 6) (tgt := 13) hX dX10_readNumber_6 (by decide) (fun z => ?_) (fun z => ?_)
  · replace h := ite_f z h
    refine j_iconst (pc := 13) (v := (0 : Int32)) hX dX10_readNumber_13 (by decide) ?_
    refine j_sub (lv' := [(0, .ref 30)]) ⟨rfl, trivial⟩ ?_
    exact tj_m_readNumber_P14 hX hdp hE _ _ h
  · replace h := ite_t z h
    refine j_iconst (pc := 9) (v := (1 : Int32)) hX dX10_readNumber_9 (by decide) ?_
    refine j_goto (pc := 10) (tgt := 14) hX dX10_readNumber_10 (by decide) ?_
    refine j_sub (lv' := [(0, .ref 30)]) ⟨rfl, trivial⟩ ?_
    exact tj_m_readNumber_P14 hX hdp hE _ _ h

set_option maxHeartbeats 4000000 in
set_option maxRecDepth 100000 in
theorem tj_m_readBegin_P114 {X : jX} {d : Nat} {r : jS} {cE : jS} (hX : jOk X RX10 cX10_readBegin 4 d) (hdp : 3 ≤ d) (hE : jEnd X none 0 0 (fun r0 n0 h0 => r0 = none ∧ n0 = jN ∧ h0 = jE (jmix r cE))) : ∀ (s0 : Int32) (c : jS), m_readBegin_P114 s0 c = some ((), cE) → J X 0 0 jN (jE (jmix r c)) [(0, .ref 30)] [.int s0] 114 := by
  intro s0 c h
  unfold m_readBegin_P114 at h
  refine j_istore_n (pc := 114) hX dX10_readBegin_114 rfl (by decide) (by decide) ?_
  refine j_iload_n (pc := 115) hX dX10_readBegin_115 rfl rfl ?_
  refine j_bipush (pc := 116) (v := (-2 : Int32)) hX dX10_readBegin_116 (by decide) ?_
  refine j_icmp_ne (pc := 118) (tgt := 127) hX dX10_readBegin_118 (by decide) (fun z => ?_) (fun z => ?_)
  · replace h := ite_f z h
    refine j_aload_n (pc := 127) hX dX10_readBegin_127 rfl rfl ?_
    refine j_dup (pc := 128) hX dX10_readBegin_128 rfl ?_
    refine k_getI (pc := 129) (x := (c 30 41)) hX fl_10_251 dX10_readBegin_129 rfl rfl rfl ?_
    refine j_iconst (pc := 132) (v := (1 : Int32)) hX dX10_readBegin_132 (by decide) ?_
    refine j_iadd (pc := 133) hX dX10_readBegin_133 ?_
    obtain ⟨c5, hc, h⟩ := lt_some h
    refine k_putI (pc := 134) (c' := jmix r c5) hX pfl_10_251 dX10_readBegin_134 rfl rfl (fun _ => ⟨rfl, rfl⟩) (jmix_me rfl hc) ?_
    refine j_aload_n (pc := 137) hX dX10_readBegin_137 rfl rfl ?_
    refine j_iload_n (pc := 138) hX dX10_readBegin_138 rfl rfl ?_
    obtain ⟨_u, c6, h1, h⟩ := bd_some h
    refine k_callVV (pc := 139) (st := []) hX ln_10_154 dX10_readBegin_139 (t_m_push (d := 0) (Nat.le_refl _) h1) rfl rfl rfl (by omega) (Nat.le_of_ble_eq_true rfl) ?_
    refine j_aload_n (pc := 142) hX dX10_readBegin_142 rfl rfl ?_
    refine k_getI (pc := 143) (x := (c6 30 14)) hX fl_10_145 dX10_readBegin_143 rfl rfl rfl ?_
    refine j_iconst (pc := 146) (v := (1 : Int32)) hX dX10_readBegin_146 (by decide) ?_
    refine j_isub (pc := 147) hX dX10_readBegin_147 ?_
    refine j_istore_n (pc := 148) hX dX10_readBegin_148 rfl (by decide) (by decide) ?_
    refine j_aload_n (pc := 149) hX dX10_readBegin_149 rfl rfl ?_
    refine j_bipush (pc := 150) (v := (-2 : Int32)) hX dX10_readBegin_150 (by decide) ?_
    obtain ⟨c7, hc, h⟩ := lt_some h
    refine k_putI (pc := 152) (c' := jmix r c7) hX pfl_10_151 dX10_readBegin_152 rfl rfl (fun _ => ⟨rfl, rfl⟩) (jmix_me rfl hc) ?_
    refine j_iload_n (pc := 155) hX dX10_readBegin_155 rfl rfl ?_
    refine j_iconst (pc := 156) (v := (2 : Int32)) hX dX10_readBegin_156 (by decide) ?_
    refine j_icmp_ne (pc := 157) (tgt := 207) hX dX10_readBegin_157 (by decide) (fun z => ?_) (fun z => ?_)
    · replace h := ite_f z h
      refine j_iload_n (pc := 207) hX dX10_readBegin_207 rfl rfl ?_
      refine j_iconst (pc := 208) (v := (4 : Int32)) hX dX10_readBegin_208 (by decide) ?_
      refine j_icmp_ne (pc := 209) (tgt := 228) hX dX10_readBegin_209 (by decide) (fun z => ?_) (fun z => ?_)
      · replace h := ite_f z h
        obtain ⟨_, h⟩ := Prod.mk.inj (Option.some.inj h)
        subst h
        exact j_vret (pc := 228) hX hE dX10_readBegin_228 (Nat.le_refl 0) (Nat.le_refl 0) ⟨rfl, rfl, rfl⟩
      · replace h := ite_t z h
        refine j_aload_n (pc := 212) hX dX10_readBegin_212 rfl rfl ?_
        refine k_getR (pc := 213) (q := 48) hX fl_10_69 dX10_readBegin_213 rfl rfl ?_
        refine j_iload_n (pc := 216) hX dX10_readBegin_216 rfl rfl ?_
        refine j_aload_n (pc := 217) hX dX10_readBegin_217 rfl rfl ?_
        obtain ⟨r8, c9, h1, h⟩ := bd_some h
        refine k_callVI (pc := 218) (st := [.int ((c6 30 14) - (1 : Int32)), .ref 48]) hX ln_10_276 dX10_readBegin_218 (t_m_mustLetter (d := 1) (Nat.le_refl _) h1) rfl rfl rfl (by omega) (Nat.le_of_ble_eq_true rfl) ?_
        obtain ⟨hg, h⟩ := gd_some h
        obtain ⟨c10, hc, h⟩ := lt_some h
        refine k_iast (pc := 221) (c' := jmix r c10) hX dX10_readBegin_221 rfl hg (jmix_me rfl hc) ?_
        refine j_aload_n (pc := 222) hX dX10_readBegin_222 rfl rfl ?_
        refine j_bipush (pc := 223) (v := (61 : Int32)) hX dX10_readBegin_223 (by decide) ?_
        obtain ⟨_u, c11, h1, h⟩ := bd_some h
        refine k_callVV (pc := 225) (st := []) hX ln_10_261 dX10_readBegin_225 (t_m_must (d := 1) (Nat.le_refl _) h1) rfl rfl rfl (by omega) (Nat.le_of_ble_eq_true rfl) ?_
        obtain ⟨_, h⟩ := Prod.mk.inj (Option.some.inj h)
        subst h
        exact j_vret (pc := 228) hX hE dX10_readBegin_228 (Nat.le_refl 0) (Nat.le_refl 0) ⟨rfl, rfl, rfl⟩
    · replace h := ite_t z h
      refine j_aload_n (pc := 160) hX dX10_readBegin_160 rfl rfl ?_
      refine k_getR (pc := 161) (q := 48) hX fl_10_69 dX10_readBegin_161 rfl rfl ?_
      refine j_iload_n (pc := 164) hX dX10_readBegin_164 rfl rfl ?_
      refine j_aload_n (pc := 165) hX dX10_readBegin_165 rfl rfl ?_
      obtain ⟨r12, c13, h1, h⟩ := bd_some h
      refine k_callVI (pc := 166) (st := [.int ((c6 30 14) - (1 : Int32)), .ref 48]) hX ln_10_276 dX10_readBegin_166 (t_m_mustLetter (d := 1) (Nat.le_refl _) h1) rfl rfl rfl (by omega) (Nat.le_of_ble_eq_true rfl) ?_
      obtain ⟨hg, h⟩ := gd_some h
      obtain ⟨c14, hc, h⟩ := lt_some h
      refine k_iast (pc := 169) (c' := jmix r c14) hX dX10_readBegin_169 rfl hg (jmix_me rfl hc) ?_
      refine j_aload_n (pc := 170) hX dX10_readBegin_170 rfl rfl ?_
      refine j_bipush (pc := 171) (v := (58 : Int32)) hX dX10_readBegin_171 (by decide) ?_
      obtain ⟨_u, c15, h1, h⟩ := bd_some h
      refine k_callVV (pc := 173) (st := []) hX ln_10_261 dX10_readBegin_173 (t_m_must (d := 1) (Nat.le_refl _) h1) rfl rfl rfl (by omega) (Nat.le_of_ble_eq_true rfl) ?_
      refine j_aload_n (pc := 176) hX dX10_readBegin_176 rfl rfl ?_
      refine k_getR (pc := 177) (q := 49) hX fl_10_72 dX10_readBegin_177 rfl rfl ?_
      refine j_iload_n (pc := 180) hX dX10_readBegin_180 rfl rfl ?_
      refine j_aload_n (pc := 181) hX dX10_readBegin_181 rfl rfl ?_
      refine k_getI (pc := 182) (x := (c15 30 42)) hX fl_10_254 dX10_readBegin_182 rfl rfl rfl ?_
      refine j_if_ne (pc := 185) (tgt := 195) hX dX10_readBegin_185 (by decide) (fun z => ?_) (fun z => ?_)
      · replace h := ite_f z h
        refine j_bipush (pc := 195) (v := (-2 : Int32)) hX dX10_readBegin_195 (by decide) ?_
        obtain ⟨hg, h⟩ := gd_some h
        obtain ⟨c16, hc, h⟩ := lt_some h
        refine k_iast (pc := 197) (c' := jmix r c16) hX dX10_readBegin_197 rfl hg (jmix_me rfl hc) ?_
        refine j_aload_n (pc := 198) hX dX10_readBegin_198 rfl rfl ?_
        refine j_bipush (pc := 199) (v := (46 : Int32)) hX dX10_readBegin_199 (by decide) ?_
        obtain ⟨_u, c17, h1, h⟩ := bd_some h
        refine k_callVV (pc := 201) (st := []) hX ln_10_261 dX10_readBegin_201 (t_m_must (d := 1) (Nat.le_refl _) h1) rfl rfl rfl (by omega) (Nat.le_of_ble_eq_true rfl) ?_
        refine j_goto (pc := 204) (tgt := 228) hX dX10_readBegin_204 (by decide) ?_
        obtain ⟨_, h⟩ := Prod.mk.inj (Option.some.inj h)
        subst h
        exact j_vret (pc := 228) hX hE dX10_readBegin_228 (Nat.le_refl 0) (Nat.le_refl 0) ⟨rfl, rfl, rfl⟩
      · replace h := ite_t z h
        refine j_aload_n (pc := 188) hX dX10_readBegin_188 rfl rfl ?_
        obtain ⟨r18, c19, h1, h⟩ := bd_some h
        refine k_callVI (pc := 189) (st := [.int ((c6 30 14) - (1 : Int32)), .ref 49]) hX ln_10_279 dX10_readBegin_189 (t_m_readType (d := 2) (Nat.le_refl _) h1) rfl rfl rfl (by omega) (Nat.le_of_ble_eq_true rfl) ?_
        refine j_goto (pc := 192) (tgt := 197) hX dX10_readBegin_192 (by decide) ?_
        obtain ⟨hg, h⟩ := gd_some h
        obtain ⟨c20, hc, h⟩ := lt_some h
        refine k_iast (pc := 197) (c' := jmix r c20) hX dX10_readBegin_197 rfl hg (jmix_me rfl hc) ?_
        refine j_aload_n (pc := 198) hX dX10_readBegin_198 rfl rfl ?_
        refine j_bipush (pc := 199) (v := (46 : Int32)) hX dX10_readBegin_199 (by decide) ?_
        obtain ⟨_u, c21, h1, h⟩ := bd_some h
        refine k_callVV (pc := 201) (st := []) hX ln_10_261 dX10_readBegin_201 (t_m_must (d := 1) (Nat.le_refl _) h1) rfl rfl rfl (by omega) (Nat.le_of_ble_eq_true rfl) ?_
        refine j_goto (pc := 204) (tgt := 228) hX dX10_readBegin_204 (by decide) ?_
        obtain ⟨_, h⟩ := Prod.mk.inj (Option.some.inj h)
        subst h
        exact j_vret (pc := 228) hX hE dX10_readBegin_228 (Nat.le_refl 0) (Nat.le_refl 0) ⟨rfl, rfl, rfl⟩
  · replace h := ite_t z h
    refine j_aload_n (pc := 121) hX dX10_readBegin_121 rfl rfl ?_
    refine j_iconst (pc := 122) (v := (1 : Int32)) hX dX10_readBegin_122 (by decide) ?_
    obtain ⟨c22, hc, h⟩ := lt_some h
    refine k_putI (pc := 123) (c' := jmix r c22) hX pfl_10_254 dX10_readBegin_123 rfl rfl (fun _ => ⟨rfl, rfl⟩) (jmix_me rfl hc) ?_
    obtain ⟨_, h⟩ := Prod.mk.inj (Option.some.inj h)
    subst h
    exact j_vret (pc := 126) hX hE dX10_readBegin_126 (Nat.le_refl 0) (Nat.le_refl 0) ⟨rfl, rfl, rfl⟩
set_option maxHeartbeats 4000000 in
set_option maxRecDepth 100000 in
theorem t_m_readBegin {l : Launch} {D : va_G} {G : Nat → ClassId} {d : Nat} (hdp : 3 ≤ d) {c r : jS} {cE : jS} (h : m_readBegin c = some ((), cE)) : jC l D G d M_m_readBegin [.ref 30] (jmix r c) none (jmix r cE) := by
  refine jM_of rfl (Nat.le_of_ble_eq_true rfl) ?_
  intro X hl hD hG _ _ hX hE _
  subst hl hD hG
  unfold m_readBegin at h
  show J X 0 0 jN (jE (jmix r c)) [(0, .ref 30)] [] 0
  refine j_aload_n (pc := 0) hX dX10_readBegin_0 rfl rfl ?_
  obtain ⟨r1, h1, h⟩ := ob_some h
  refine k_callVI (pc := 1) (st := []) hX ln_10_257 dX10_readBegin_1 (t_m_byteHere (d := 0) (Nat.le_refl _) h1) rfl rfl rfl (by omega) (Nat.le_of_ble_eq_true rfl) ?_
  refine j_istore_n (pc := 4) hX dX10_readBegin_4 rfl (by decide) (by decide) ?_
  refine j_iload_n (pc := 5) hX dX10_readBegin_5 rfl rfl ?_
  refine j_bipush (pc := 6) (v := (97 : Int32)) hX dX10_readBegin_6 (by decide) ?_
  refine j_bipush (pc := 8) (v := (122 : Int32)) hX dX10_readBegin_8 (by decide) ?_
  obtain ⟨r2, h1, h⟩ := ob_some h
  refine k_callSI (pc := 10) (st := []) hX ln_10_3 dX10_readBegin_10 (t_m_in (d := 0) (Nat.le_refl _) h1) rfl rfl (by omega) (Nat.le_of_ble_eq_true rfl) ?_
  refine j_if_eq (pc := 13) (tgt := 49) hX dX10_readBegin_13 (by decide) (fun z => ?_) (fun z => ?_)
  · replace h := ite_t z h
    refine j_iload_n (pc := 49) hX dX10_readBegin_49 rfl rfl ?_
    refine j_bipush (pc := 50) (v := (45 : Int32)) hX dX10_readBegin_50 (by decide) ?_
    refine j_icmp_eq (pc := 52) (tgt := 66) hX dX10_readBegin_52 (by decide) (fun z => ?_) (fun z => ?_)
    · replace h := ite_t z h
      refine j_aload_n (pc := 66) hX dX10_readBegin_66 rfl rfl ?_
      obtain ⟨_u, c3, h1, h⟩ := bd_some h
      refine k_callVV (pc := 67) (st := []) hX ln_10_273 dX10_readBegin_67 (t_m_readNumber (d := 2) (Nat.le_refl _) h1) rfl rfl rfl (by omega) (Nat.le_of_ble_eq_true rfl) ?_
      obtain ⟨_, h⟩ := Prod.mk.inj (Option.some.inj h)
      subst h
      exact j_vret (pc := 70) hX hE dX10_readBegin_70 (Nat.le_refl 0) (Nat.le_refl 0) ⟨rfl, rfl, rfl⟩
    · replace h := ite_f z h
      refine j_iload_n (pc := 55) hX dX10_readBegin_55 rfl rfl ?_
      refine j_bipush (pc := 56) (v := (48 : Int32)) hX dX10_readBegin_56 (by decide) ?_
      refine j_bipush (pc := 58) (v := (57 : Int32)) hX dX10_readBegin_58 (by decide) ?_
      obtain ⟨r4, h1, h⟩ := ob_some h
      refine k_callSI (pc := 60) (st := []) hX ln_10_3 dX10_readBegin_60 (t_m_in (d := 0) (Nat.le_refl _) h1) rfl rfl (by omega) (Nat.le_of_ble_eq_true rfl) ?_
      refine j_if_eq (pc := 63) (tgt := 71) hX dX10_readBegin_63 (by decide) (fun z => ?_) (fun z => ?_)
      · replace h := ite_t z h
        refine j_iload_n (pc := 71) hX dX10_readBegin_71 rfl rfl ?_
        refine j_bipush (pc := 72) (v := (92 : Int32)) hX dX10_readBegin_72 (by decide) ?_
        refine j_icmp_ne (pc := 74) (tgt := 81) hX dX10_readBegin_74 (by decide) (fun z => ?_) (fun z => ?_)
        · replace h := ite_f z h
          refine j_iload_n (pc := 81) hX dX10_readBegin_81 rfl rfl ?_
          refine j_bipush (pc := 82) (v := (40 : Int32)) hX dX10_readBegin_82 (by decide) ?_
          refine j_icmp_ne (pc := 84) (tgt := 91) hX dX10_readBegin_84 (by decide) (fun z => ?_) (fun z => ?_)
          · replace h := ite_f z h
            refine j_iload_n (pc := 91) hX dX10_readBegin_91 rfl rfl ?_
            refine j_bipush (pc := 92) (v := (91 : Int32)) hX dX10_readBegin_92 (by decide) ?_
            refine j_icmp_ne (pc := 94) (tgt := 101) hX dX10_readBegin_94 (by decide) (fun z => ?_) (fun z => ?_)
            · replace h := ite_f z h
              refine j_iload_n (pc := 101) hX dX10_readBegin_101 rfl rfl ?_
              refine j_bipush (pc := 102) (v := (123 : Int32)) hX dX10_readBegin_102 (by decide) ?_
              refine j_icmp_ne (pc := 104) (tgt := 112) hX dX10_readBegin_104 (by decide) (fun z => ?_) (fun z => ?_)
              · replace h := ite_f z h
                refine j_bipush (pc := 112) (v := (-2 : Int32)) hX dX10_readBegin_112 (by decide) ?_
                refine j_sub (lv' := [(0, .ref 30)]) ⟨rfl, trivial⟩ ?_
                exact tj_m_readBegin_P114 hX hdp hE _ _ h
              · replace h := ite_t z h
                refine j_bipush (pc := 107) (v := (6 : Int32)) hX dX10_readBegin_107 (by decide) ?_
                refine j_goto (pc := 109) (tgt := 114) hX dX10_readBegin_109 (by decide) ?_
                refine j_sub (lv' := [(0, .ref 30)]) ⟨rfl, trivial⟩ ?_
                exact tj_m_readBegin_P114 hX hdp hE _ _ h
            · replace h := ite_t z h
              refine j_iconst (pc := 97) (v := (4 : Int32)) hX dX10_readBegin_97 (by decide) ?_
              refine j_goto (pc := 98) (tgt := 114) hX dX10_readBegin_98 (by decide) ?_
              refine j_sub (lv' := [(0, .ref 30)]) ⟨rfl, trivial⟩ ?_
              exact tj_m_readBegin_P114 hX hdp hE _ _ h
          · replace h := ite_t z h
            refine j_iconst (pc := 87) (v := (3 : Int32)) hX dX10_readBegin_87 (by decide) ?_
            refine j_goto (pc := 88) (tgt := 114) hX dX10_readBegin_88 (by decide) ?_
            refine j_sub (lv' := [(0, .ref 30)]) ⟨rfl, trivial⟩ ?_
            exact tj_m_readBegin_P114 hX hdp hE _ _ h
        · replace h := ite_t z h
          refine j_iconst (pc := 77) (v := (2 : Int32)) hX dX10_readBegin_77 (by decide) ?_
          refine j_goto (pc := 78) (tgt := 114) hX dX10_readBegin_78 (by decide) ?_
          refine j_sub (lv' := [(0, .ref 30)]) ⟨rfl, trivial⟩ ?_
          exact tj_m_readBegin_P114 hX hdp hE _ _ h
      · replace h := ite_f z h
        refine j_aload_n (pc := 66) hX dX10_readBegin_66 rfl rfl ?_
        obtain ⟨_u, c23, h1, h⟩ := bd_some h
        refine k_callVV (pc := 67) (st := []) hX ln_10_273 dX10_readBegin_67 (t_m_readNumber (d := 2) (Nat.le_refl _) h1) rfl rfl rfl (by omega) (Nat.le_of_ble_eq_true rfl) ?_
        obtain ⟨_, h⟩ := Prod.mk.inj (Option.some.inj h)
        subst h
        exact j_vret (pc := 70) hX hE dX10_readBegin_70 (Nat.le_refl 0) (Nat.le_refl 0) ⟨rfl, rfl, rfl⟩
  · replace h := ite_f z h
    refine j_aload_n (pc := 16) hX dX10_readBegin_16 rfl rfl ?_
    refine j_dup (pc := 17) hX dX10_readBegin_17 rfl ?_
    refine k_getI (pc := 18) (x := (c 30 41)) hX fl_10_251 dX10_readBegin_18 rfl rfl rfl ?_
    refine j_iconst (pc := 21) (v := (1 : Int32)) hX dX10_readBegin_21 (by decide) ?_
    refine j_iadd (pc := 22) hX dX10_readBegin_22 ?_
    obtain ⟨c24, hc, h⟩ := lt_some h
    refine k_putI (pc := 23) (c' := jmix r c24) hX pfl_10_251 dX10_readBegin_23 rfl rfl (fun _ => ⟨rfl, rfl⟩) (jmix_me rfl hc) ?_
    refine j_aload_n (pc := 26) hX dX10_readBegin_26 rfl rfl ?_
    refine j_aload_n (pc := 27) hX dX10_readBegin_27 rfl rfl ?_
    refine j_iconst (pc := 28) (v := (1 : Int32)) hX dX10_readBegin_28 (by decide) ?_
    refine j_iconst (pc := 29) (v := (0 : Int32)) hX dX10_readBegin_29 (by decide) ?_
    refine j_iload_n (pc := 30) hX dX10_readBegin_30 rfl rfl ?_
    refine j_bipush (pc := 31) (v := (97 : Int32)) hX dX10_readBegin_31 (by decide) ?_
    refine j_isub (pc := 33) hX dX10_readBegin_33 ?_
    refine j_bipush (pc := 34) (v := (-2 : Int32)) hX dX10_readBegin_34 (by decide) ?_
    refine j_bipush (pc := 36) (v := (-2 : Int32)) hX dX10_readBegin_36 (by decide) ?_
    refine j_bipush (pc := 38) (v := (-2 : Int32)) hX dX10_readBegin_38 (by decide) ?_
    refine j_bipush (pc := 40) (v := (-2 : Int32)) hX dX10_readBegin_40 (by decide) ?_
    obtain ⟨r25, c26, h1, h⟩ := bd_some h
    refine k_callVI (pc := 42) (st := [.ref 30]) hX ln_10_132 dX10_readBegin_42 (t_m_make (d := 1) (Nat.le_refl _) h1) rfl rfl rfl (by omega) (Nat.le_of_ble_eq_true rfl) ?_
    obtain ⟨_u, c27, h1, h⟩ := bd_some h
    refine k_callVV (pc := 45) (st := []) hX ln_10_270 dX10_readBegin_45 (t_m_made (d := 0) (Nat.le_refl _) h1) rfl rfl rfl (by omega) (Nat.le_of_ble_eq_true rfl) ?_
    obtain ⟨_, h⟩ := Prod.mk.inj (Option.some.inj h)
    subst h
    exact j_vret (pc := 48) hX hE dX10_readBegin_48 (Nat.le_refl 0) (Nat.le_refl 0) ⟨rfl, rfl, rfl⟩

set_option maxHeartbeats 4000000 in
set_option maxRecDepth 100000 in
theorem tj_m_readPart_P136 {X : jX} {d : Nat} {r : jS} {cE : jS} (hX : jOk X RX10 cX10_readPart 6 d) (hdp : 2 ≤ d) (hE : jEnd X none 0 0 (fun r0 n0 h0 => r0 = none ∧ n0 = jN ∧ h0 = jE (jmix r cE))) : ∀ (s1 : Int32) (s2 : Int32) (c : jS), m_readPart_P136 s1 s2 c = some ((), cE) → J X 0 0 jN (jE (jmix r c)) [(0, .ref 30)] [.int s2, .int s1, .ref 43] 136 := by
  intro s1 s2 c h
  unfold m_readPart_P136 at h
  obtain ⟨hg, h⟩ := gd_some h
  obtain ⟨c16, hc, h⟩ := lt_some h
  refine k_iast (pc := 136) (c' := jmix r c16) hX dX10_readPart_136 rfl hg (jmix_me rfl hc) ?_
  refine j_aload_n (pc := 137) hX dX10_readPart_137 rfl rfl ?_
  refine j_aload_n (pc := 138) hX dX10_readPart_138 rfl rfl ?_
  obtain ⟨r17, h1, h⟩ := ob_some h
  refine k_callVI (pc := 139) (st := [.ref 30]) hX ln_10_257 dX10_readPart_139 (t_m_byteHere (d := 0) (Nat.le_refl _) h1) rfl rfl rfl (by omega) (Nat.le_of_ble_eq_true rfl) ?_
  refine j_bipush (pc := 142) (v := (43 : Int32)) hX dX10_readPart_142 (by decide) ?_
  refine j_icmp_ne (pc := 144) (tgt := 152) hX dX10_readPart_144 (by decide) (fun z => ?_) (fun z => ?_)
  · replace h := ite_f z h
    refine j_bipush (pc := 152) (v := (32 : Int32)) hX dX10_readPart_152 (by decide) ?_
    obtain ⟨_u, c18, h1, h⟩ := bd_some h
    refine k_callVV (pc := 154) (st := []) hX ln_10_261 dX10_readPart_154 (t_m_must (d := 1) (Nat.le_refl _) h1) rfl rfl rfl (by omega) (Nat.le_of_ble_eq_true rfl) ?_
    refine j_goto (pc := 157) (tgt := 332) hX dX10_readPart_157 (by decide) ?_
    obtain ⟨_, h⟩ := Prod.mk.inj (Option.some.inj h)
    subst h
    exact j_vret (pc := 332) hX hE dX10_readPart_332 (Nat.le_refl 0) (Nat.le_refl 0) ⟨rfl, rfl, rfl⟩
  · replace h := ite_t z h
    refine j_bipush (pc := 147) (v := (43 : Int32)) hX dX10_readPart_147 (by decide) ?_
    refine j_goto (pc := 149) (tgt := 154) hX dX10_readPart_149 (by decide) ?_
    obtain ⟨_u, c19, h1, h⟩ := bd_some h
    refine k_callVV (pc := 154) (st := []) hX ln_10_261 dX10_readPart_154 (t_m_must (d := 1) (Nat.le_refl _) h1) rfl rfl rfl (by omega) (Nat.le_of_ble_eq_true rfl) ?_
    refine j_goto (pc := 157) (tgt := 332) hX dX10_readPart_157 (by decide) ?_
    obtain ⟨_, h⟩ := Prod.mk.inj (Option.some.inj h)
    subst h
    exact j_vret (pc := 332) hX hE dX10_readPart_332 (Nat.le_refl 0) (Nat.le_refl 0) ⟨rfl, rfl, rfl⟩
set_option maxHeartbeats 4000000 in
set_option maxRecDepth 100000 in
theorem tj_m_readPart_P308 {X : jX} {d : Nat} {r : jS} {cE : jS} (hX : jOk X RX10 cX10_readPart 6 d) (hdp : 2 ≤ d) (hE : jEnd X none 0 0 (fun r0 n0 h0 => r0 = none ∧ n0 = jN ∧ h0 = jE (jmix r cE))) : ∀ (v1 : Int32) (s2 : Int32) (s3 : Int32) (s4 : Int32) (s5 : Int32) (c : jS), m_readPart_P308 v1 s2 s3 s4 s5 c = some ((), cE) → J X 0 0 jN (jE (jmix r c)) [(0, .ref 30), (1, .int v1)] [.int s5, .int s4, .int s3, .int s2, .ref 30, .ref 30] 308 := by
  intro v1 s2 s3 s4 s5 c h
  unfold m_readPart_P308 at h
  refine j_aload_n (pc := 308) hX dX10_readPart_308 rfl rfl ?_
  refine k_getR (pc := 309) (q := 45) hX fl_10_60 dX10_readPart_309 rfl rfl ?_
  refine j_iload_n (pc := 312) hX dX10_readPart_312 rfl rfl ?_
  obtain ⟨hg, h⟩ := gd_some h
  refine k_iald (pc := 313) (x := (c 45 (v1).toNatClampNeg)) hX dX10_readPart_313 rfl hg rfl ?_
  refine j_aload_n (pc := 314) hX dX10_readPart_314 rfl rfl ?_
  refine k_getR (pc := 315) (q := 46) hX fl_10_63 dX10_readPart_315 rfl rfl ?_
  refine j_iload_n (pc := 318) hX dX10_readPart_318 rfl rfl ?_
  obtain ⟨hg, h⟩ := gd_some h
  refine k_iald (pc := 319) (x := (c 46 (v1).toNatClampNeg)) hX dX10_readPart_319 rfl hg rfl ?_
  refine j_aload_n (pc := 320) hX dX10_readPart_320 rfl rfl ?_
  refine k_getR (pc := 321) (q := 47) hX fl_10_66 dX10_readPart_321 rfl rfl ?_
  refine j_iload_n (pc := 324) hX dX10_readPart_324 rfl rfl ?_
  obtain ⟨hg, h⟩ := gd_some h
  refine k_iald (pc := 325) (x := (c 47 (v1).toNatClampNeg)) hX dX10_readPart_325 rfl hg rfl ?_
  obtain ⟨r8, c9, h1, h⟩ := bd_some h
  refine k_callVI (pc := 326) (st := [.ref 30]) hX ln_10_132 dX10_readPart_326 (t_m_make (d := 1) (Nat.le_refl _) h1) rfl rfl rfl (by omega) (Nat.le_of_ble_eq_true rfl) ?_
  obtain ⟨_u, c10, h1, h⟩ := bd_some h
  refine k_callVV (pc := 329) (st := []) hX ln_10_270 dX10_readPart_329 (t_m_made (d := 0) (Nat.le_refl _) h1) rfl rfl rfl (by omega) (Nat.le_of_ble_eq_true rfl) ?_
  obtain ⟨_, h⟩ := Prod.mk.inj (Option.some.inj h)
  subst h
  exact j_vret (pc := 332) hX hE dX10_readPart_332 (Nat.le_refl 0) (Nat.le_refl 0) ⟨rfl, rfl, rfl⟩
set_option maxHeartbeats 4000000 in
set_option maxRecDepth 100000 in
theorem tj_m_readPart_P292 {X : jX} {d : Nat} {r : jS} {cE : jS} (hX : jOk X RX10 cX10_readPart 6 d) (hdp : 2 ≤ d) (hE : jEnd X none 0 0 (fun r0 n0 h0 => r0 = none ∧ n0 = jN ∧ h0 = jE (jmix r cE))) : ∀ (v1 : Int32) (v2 : Int32) (s2 : Int32) (s3 : Int32) (s4 : Int32) (c : jS), m_readPart_P292 v1 v2 s2 s3 s4 c = some ((), cE) → J X 0 0 jN (jE (jmix r c)) [(0, .ref 30), (1, .int v1), (2, .int v2)] [.int s4, .int s3, .int s2, .ref 30, .ref 30] 292 := by
  intro v1 v2 s2 s3 s4 c h
  unfold m_readPart_P292 at h
  refine j_iload_n (pc := 292) hX dX10_readPart_292 rfl rfl ?_
  refine j_iconst (pc := 293) (v := (2 : Int32)) hX dX10_readPart_293 (by decide) ?_
  refine j_icmp_ne (pc := 294) (tgt := 306) hX dX10_readPart_294 (by decide) (fun z => ?_) (fun z => ?_)
  · replace h := ite_f z h
    refine j_bipush (pc := 306) (v := (-2 : Int32)) hX dX10_readPart_306 (by decide) ?_
    refine j_sub (lv' := [(0, .ref 30), (1, .int v1)]) ⟨rfl, rfl, trivial⟩ ?_
    exact tj_m_readPart_P308 hX hdp hE _ _ _ _ _ _ h
  · replace h := ite_t z h
    refine j_aload_n (pc := 297) hX dX10_readPart_297 rfl rfl ?_
    refine k_getR (pc := 298) (q := 49) hX fl_10_72 dX10_readPart_298 rfl rfl ?_
    refine j_iload_n (pc := 301) hX dX10_readPart_301 rfl rfl ?_
    obtain ⟨hg, h⟩ := gd_some h
    refine k_iald (pc := 302) (x := (c 49 (v1).toNatClampNeg)) hX dX10_readPart_302 rfl hg rfl ?_
    refine j_goto (pc := 303) (tgt := 308) hX dX10_readPart_303 (by decide) ?_
    refine j_sub (lv' := [(0, .ref 30), (1, .int v1)]) ⟨rfl, rfl, trivial⟩ ?_
    exact tj_m_readPart_P308 hX hdp hE _ _ _ _ _ _ h
set_option maxHeartbeats 4000000 in
set_option maxRecDepth 100000 in
theorem tj_m_readPart_P270 {X : jX} {d : Nat} {r : jS} {cE : jS} (hX : jOk X RX10 cX10_readPart 6 d) (hdp : 2 ≤ d) (hE : jEnd X none 0 0 (fun r0 n0 h0 => r0 = none ∧ n0 = jN ∧ h0 = jE (jmix r cE))) : ∀ (v1 : Int32) (v2 : Int32) (s0 : Int32) (c : jS), m_readPart_P270 v1 v2 s0 c = some ((), cE) → J X 0 0 jN (jE (jmix r c)) [(0, .ref 30), (1, .int v1), (2, .int v2)] [.int s0] 270 := by
  intro v1 v2 s0 c h
  unfold m_readPart_P270 at h
  refine j_istore (pc := 270) hX dX10_readPart_270 (by decide) (by decide) ?_
  refine j_aload_n (pc := 272) hX dX10_readPart_272 rfl rfl ?_
  refine j_aload_n (pc := 273) hX dX10_readPart_273 rfl rfl ?_
  refine j_iload_n (pc := 274) hX dX10_readPart_274 rfl rfl ?_
  refine j_iconst (pc := 275) (v := (0 : Int32)) hX dX10_readPart_275 (by decide) ?_
  refine j_iload (pc := 276) hX dX10_readPart_276 rfl ?_
  refine j_if_eq (pc := 278) (tgt := 290) hX dX10_readPart_278 (by decide) (fun z => ?_) (fun z => ?_)
  · replace h := ite_t z h
    refine j_bipush (pc := 290) (v := (-2 : Int32)) hX dX10_readPart_290 (by decide) ?_
    refine j_sub (lv' := [(0, .ref 30), (1, .int v1), (2, .int v2)]) ⟨rfl, rfl, rfl, trivial⟩ ?_
    exact tj_m_readPart_P292 hX hdp hE _ _ _ _ _ _ h
  · replace h := ite_f z h
    refine j_aload_n (pc := 281) hX dX10_readPart_281 rfl rfl ?_
    refine k_getR (pc := 282) (q := 48) hX fl_10_69 dX10_readPart_282 rfl rfl ?_
    refine j_iload_n (pc := 285) hX dX10_readPart_285 rfl rfl ?_
    obtain ⟨hg, h⟩ := gd_some h
    refine k_iald (pc := 286) (x := (c 48 (v1).toNatClampNeg)) hX dX10_readPart_286 rfl hg rfl ?_
    refine j_goto (pc := 287) (tgt := 292) hX dX10_readPart_287 (by decide) ?_
    refine j_sub (lv' := [(0, .ref 30), (1, .int v1), (2, .int v2)]) ⟨rfl, rfl, rfl, trivial⟩ ?_
    exact tj_m_readPart_P292 hX hdp hE _ _ _ _ _ _ h
set_option maxHeartbeats 4000000 in
set_option maxRecDepth 100000 in
theorem tj_m_readPart_P265 {X : jX} {d : Nat} {r : jS} {cE : jS} (hX : jOk X RX10 cX10_readPart 6 d) (hdp : 2 ≤ d) (hE : jEnd X none 0 0 (fun r0 n0 h0 => r0 = none ∧ n0 = jN ∧ h0 = jE (jmix r cE))) : ∀ (v1 : Int32) (v2 : Int32) (c : jS), m_readPart_P265 v1 v2 c = some ((), cE) → J X 0 0 jN (jE (jmix r c)) [(0, .ref 30), (1, .int v1), (2, .int v2)] [] 265 := by
  intro v1 v2 c h
  unfold m_readPart_P265 at h
  refine j_iconst (pc := 265) (v := (1 : Int32)) hX dX10_readPart_265 (by decide) ?_
  refine j_goto (pc := 266) (tgt := 270) hX dX10_readPart_266 (by decide) ?_
  refine j_sub (lv' := [(0, .ref 30), (1, .int v1), (2, .int v2)]) ⟨rfl, rfl, rfl, trivial⟩ ?_
  exact tj_m_readPart_P270 hX hdp hE _ _ _ _ h
set_option maxHeartbeats 4000000 in
set_option maxRecDepth 100000 in
theorem tj_m_readPart_P238 {X : jX} {d : Nat} {r : jS} {cE : jS} (hX : jOk X RX10 cX10_readPart 6 d) (hdp : 2 ≤ d) (hE : jEnd X none 0 0 (fun r0 n0 h0 => r0 = none ∧ n0 = jN ∧ h0 = jE (jmix r cE))) : ∀ (v1 : Int32) (v2 : Int32) (c : jS), m_readPart_P238 v1 v2 c = some ((), cE) → J X 0 0 jN (jE (jmix r c)) [(0, .ref 30), (1, .int v1), (2, .int v2)] [] 238 := by
  intro v1 v2 c h
  unfold m_readPart_P238 at h
  refine j_aload_n (pc := 238) hX dX10_readPart_238 rfl rfl ?_
  refine k_getI (pc := 239) (x := (c 30 42)) hX fl_10_254 dX10_readPart_239 rfl rfl rfl ?_
  refine j_if_ne (pc := 242) (tgt := 332) hX dX10_readPart_242 (by decide) (fun z => ?_) (fun z => ?_)
  · replace h := ite_f z h
    obtain ⟨_, h⟩ := Prod.mk.inj (Option.some.inj h)
    subst h
    exact j_vret (pc := 332) hX hE dX10_readPart_332 (Nat.le_refl 0) (Nat.le_refl 0) ⟨rfl, rfl, rfl⟩
  · replace h := ite_t z h
    refine j_aload_n (pc := 245) hX dX10_readPart_245 rfl rfl ?_
    refine j_dup (pc := 246) hX dX10_readPart_246 rfl ?_
    refine k_getI (pc := 247) (x := (c 30 14)) hX fl_10_145 dX10_readPart_247 rfl rfl rfl ?_
    refine j_iconst (pc := 250) (v := (1 : Int32)) hX dX10_readPart_250 (by decide) ?_
    refine j_isub (pc := 251) hX dX10_readPart_251 ?_
    obtain ⟨c7, hc, h⟩ := lt_some h
    refine k_putI (pc := 252) (c' := jmix r c7) hX pfl_10_145 dX10_readPart_252 rfl rfl (fun _ => ⟨rfl, rfl⟩) (jmix_me rfl hc) ?_
    refine j_iload_n (pc := 255) hX dX10_readPart_255 rfl rfl ?_
    refine j_iconst (pc := 256) (v := (2 : Int32)) hX dX10_readPart_256 (by decide) ?_
    refine j_icmp_eq (pc := 257) (tgt := 265) hX dX10_readPart_257 (by decide) (fun z => ?_) (fun z => ?_)
    · replace h := ite_t z h
      refine j_sub (lv' := [(0, .ref 30), (1, .int v1), (2, .int v2)]) ⟨rfl, rfl, rfl, trivial⟩ ?_
      exact tj_m_readPart_P265 hX hdp hE _ _ _ h
    · replace h := ite_f z h
      refine j_iload_n (pc := 260) hX dX10_readPart_260 rfl rfl ?_
      refine j_iconst (pc := 261) (v := (4 : Int32)) hX dX10_readPart_261 (by decide) ?_
      refine j_icmp_ne (pc := 262) (tgt := 269) hX dX10_readPart_262 (by decide) (fun z => ?_) (fun z => ?_)
      · replace h := ite_f z h
        refine j_iconst (pc := 269) (v := (0 : Int32)) hX dX10_readPart_269 (by decide) ?_
        refine j_sub (lv' := [(0, .ref 30), (1, .int v1), (2, .int v2)]) ⟨rfl, rfl, rfl, trivial⟩ ?_
        exact tj_m_readPart_P270 hX hdp hE _ _ _ _ h
      · replace h := ite_t z h
        refine j_sub (lv' := [(0, .ref 30), (1, .int v1), (2, .int v2)]) ⟨rfl, rfl, rfl, trivial⟩ ?_
        exact tj_m_readPart_P265 hX hdp hE _ _ _ h
set_option maxHeartbeats 4000000 in
set_option maxRecDepth 100000 in
theorem tj_m_readPart_P217 {X : jX} {d : Nat} {r : jS} {cE : jS} (hX : jOk X RX10 cX10_readPart 6 d) (hdp : 2 ≤ d) (hE : jEnd X none 0 0 (fun r0 n0 h0 => r0 = none ∧ n0 = jN ∧ h0 = jE (jmix r cE))) : ∀ (v1 : Int32) (v2 : Int32) (c : jS), m_readPart_P217 v1 v2 c = some ((), cE) → J X 0 0 jN (jE (jmix r c)) [(0, .ref 30), (1, .int v1), (2, .int v2)] [] 217 := by
  intro v1 v2 c h
  unfold m_readPart_P217 at h
  refine j_aload_n (pc := 217) hX dX10_readPart_217 rfl rfl ?_
  refine j_bipush (pc := 218) (v := (41 : Int32)) hX dX10_readPart_218 (by decide) ?_
  obtain ⟨_u, c6, h1, h⟩ := bd_some h
  refine k_callVV (pc := 220) (st := []) hX ln_10_261 dX10_readPart_220 (t_m_must (d := 1) (Nat.le_refl _) h1) rfl rfl rfl (by omega) (Nat.le_of_ble_eq_true rfl) ?_
  refine j_goto (pc := 223) (tgt := 238) hX dX10_readPart_223 (by decide) ?_
  refine j_sub (lv' := [(0, .ref 30), (1, .int v1), (2, .int v2)]) ⟨rfl, rfl, rfl, trivial⟩ ?_
  exact tj_m_readPart_P238 hX hdp hE _ _ _ h
set_option maxHeartbeats 4000000 in
set_option maxRecDepth 100000 in
theorem tj_m_readPart_P207 {X : jX} {d : Nat} {r : jS} {cE : jS} (hX : jOk X RX10 cX10_readPart 6 d) (hdp : 2 ≤ d) (hE : jEnd X none 0 0 (fun r0 n0 h0 => r0 = none ∧ n0 = jN ∧ h0 = jE (jmix r cE))) : ∀ (v1 : Int32) (v2 : Int32) (c : jS), m_readPart_P207 v1 v2 c = some ((), cE) → J X 0 0 jN (jE (jmix r c)) [(0, .ref 30), (1, .int v1), (2, .int v2)] [] 207 := by
  intro v1 v2 c h
  unfold m_readPart_P207 at h
  refine j_iload_n (pc := 207) hX dX10_readPart_207 rfl rfl ?_
  refine j_iconst (pc := 208) (v := (3 : Int32)) hX dX10_readPart_208 (by decide) ?_
  refine j_icmp_eq (pc := 209) (tgt := 217) hX dX10_readPart_209 (by decide) (fun z => ?_) (fun z => ?_)
  · replace h := ite_t z h
    refine j_sub (lv' := [(0, .ref 30), (1, .int v1), (2, .int v2)]) ⟨rfl, rfl, rfl, trivial⟩ ?_
    exact tj_m_readPart_P217 hX hdp hE _ _ _ h
  · replace h := ite_f z h
    refine j_iload_n (pc := 212) hX dX10_readPart_212 rfl rfl ?_
    refine j_iconst (pc := 213) (v := (5 : Int32)) hX dX10_readPart_213 (by decide) ?_
    refine j_icmp_ne (pc := 214) (tgt := 226) hX dX10_readPart_214 (by decide) (fun z => ?_) (fun z => ?_)
    · replace h := ite_f z h
      refine j_iload_n (pc := 226) hX dX10_readPart_226 rfl rfl ?_
      refine j_bipush (pc := 227) (v := (6 : Int32)) hX dX10_readPart_227 (by decide) ?_
      refine j_icmp_ne (pc := 229) (tgt := 238) hX dX10_readPart_229 (by decide) (fun z => ?_) (fun z => ?_)
      · replace h := ite_f z h
        refine j_sub (lv' := [(0, .ref 30), (1, .int v1), (2, .int v2)]) ⟨rfl, rfl, rfl, trivial⟩ ?_
        exact tj_m_readPart_P238 hX hdp hE _ _ _ h
      · replace h := ite_t z h
        refine j_aload_n (pc := 232) hX dX10_readPart_232 rfl rfl ?_
        refine j_bipush (pc := 233) (v := (125 : Int32)) hX dX10_readPart_233 (by decide) ?_
        obtain ⟨_u, c11, h1, h⟩ := bd_some h
        refine k_callVV (pc := 235) (st := []) hX ln_10_261 dX10_readPart_235 (t_m_must (d := 1) (Nat.le_refl _) h1) rfl rfl rfl (by omega) (Nat.le_of_ble_eq_true rfl) ?_
        refine j_sub (lv' := [(0, .ref 30), (1, .int v1), (2, .int v2)]) ⟨rfl, rfl, rfl, trivial⟩ ?_
        exact tj_m_readPart_P238 hX hdp hE _ _ _ h
    · replace h := ite_t z h
      refine j_sub (lv' := [(0, .ref 30), (1, .int v1), (2, .int v2)]) ⟨rfl, rfl, rfl, trivial⟩ ?_
      exact tj_m_readPart_P217 hX hdp hE _ _ _ h
set_option maxHeartbeats 4000000 in
set_option maxRecDepth 100000 in
theorem tj_m_readPart_P178 {X : jX} {d : Nat} {r : jS} {cE : jS} (hX : jOk X RX10 cX10_readPart 6 d) (hdp : 2 ≤ d) (hE : jEnd X none 0 0 (fun r0 n0 h0 => r0 = none ∧ n0 = jN ∧ h0 = jE (jmix r cE))) : ∀ (v1 : Int32) (v2 : Int32) (v3 : Int32) (c : jS), m_readPart_P178 v1 v2 v3 c = some ((), cE) → J X 0 0 jN (jE (jmix r c)) [(0, .ref 30), (1, .int v1), (2, .int v2), (3, .int v3)] [] 178 := by
  intro v1 v2 v3 c h
  unfold m_readPart_P178 at h
  refine j_iload_n (pc := 178) hX dX10_readPart_178 rfl rfl ?_
  refine j_bipush (pc := 179) (v := (6 : Int32)) hX dX10_readPart_179 (by decide) ?_
  refine j_icmp_ne (pc := 181) (tgt := 207) hX dX10_readPart_181 (by decide) (fun z => ?_) (fun z => ?_)
  · replace h := ite_f z h
    refine j_sub (lv' := [(0, .ref 30), (1, .int v1), (2, .int v2)]) ⟨rfl, rfl, rfl, trivial⟩ ?_
    exact tj_m_readPart_P207 hX hdp hE _ _ _ h
  · replace h := ite_t z h
    refine j_iload_n (pc := 184) hX dX10_readPart_184 rfl rfl ?_
    refine j_iconst (pc := 185) (v := (2 : Int32)) hX dX10_readPart_185 (by decide) ?_
    refine j_icmp_ge (pc := 186) (tgt := 207) hX dX10_readPart_186 (by decide) (fun z => ?_) (fun z => ?_)
    · replace h := ite_t z h
      refine j_sub (lv' := [(0, .ref 30), (1, .int v1), (2, .int v2)]) ⟨rfl, rfl, rfl, trivial⟩ ?_
      exact tj_m_readPart_P207 hX hdp hE _ _ _ h
    · replace h := ite_f z h
      refine j_aload_n (pc := 189) hX dX10_readPart_189 rfl rfl ?_
      refine j_iload_n (pc := 190) hX dX10_readPart_190 rfl rfl ?_
      refine j_if_ne (pc := 191) (tgt := 199) hX dX10_readPart_191 (by decide) (fun z => ?_) (fun z => ?_)
      · replace h := ite_f z h
        refine j_bipush (pc := 199) (v := (58 : Int32)) hX dX10_readPart_199 (by decide) ?_
        obtain ⟨_u, c12, h1, h⟩ := bd_some h
        refine k_callVV (pc := 201) (st := []) hX ln_10_261 dX10_readPart_201 (t_m_must (d := 1) (Nat.le_refl _) h1) rfl rfl rfl (by omega) (Nat.le_of_ble_eq_true rfl) ?_
        refine j_goto (pc := 204) (tgt := 332) hX dX10_readPart_204 (by decide) ?_
        obtain ⟨_, h⟩ := Prod.mk.inj (Option.some.inj h)
        subst h
        exact j_vret (pc := 332) hX hE dX10_readPart_332 (Nat.le_refl 0) (Nat.le_refl 0) ⟨rfl, rfl, rfl⟩
      · replace h := ite_t z h
        refine j_bipush (pc := 194) (v := (63 : Int32)) hX dX10_readPart_194 (by decide) ?_
        refine j_goto (pc := 196) (tgt := 201) hX dX10_readPart_196 (by decide) ?_
        obtain ⟨_u, c13, h1, h⟩ := bd_some h
        refine k_callVV (pc := 201) (st := []) hX ln_10_261 dX10_readPart_201 (t_m_must (d := 1) (Nat.le_refl _) h1) rfl rfl rfl (by omega) (Nat.le_of_ble_eq_true rfl) ?_
        refine j_goto (pc := 204) (tgt := 332) hX dX10_readPart_204 (by decide) ?_
        obtain ⟨_, h⟩ := Prod.mk.inj (Option.some.inj h)
        subst h
        exact j_vret (pc := 332) hX hE dX10_readPart_332 (Nat.le_refl 0) (Nat.le_refl 0) ⟨rfl, rfl, rfl⟩
set_option maxHeartbeats 4000000 in
set_option maxRecDepth 100000 in
theorem tj_m_readPart_P160 {X : jX} {d : Nat} {r : jS} {cE : jS} (hX : jOk X RX10 cX10_readPart 6 d) (hdp : 2 ≤ d) (hE : jEnd X none 0 0 (fun r0 n0 h0 => r0 = none ∧ n0 = jN ∧ h0 = jE (jmix r cE))) : ∀ (v1 : Int32) (v2 : Int32) (v3 : Int32) (c : jS), m_readPart_P160 v1 v2 v3 c = some ((), cE) → J X 0 0 jN (jE (jmix r c)) [(0, .ref 30), (1, .int v1), (2, .int v2), (3, .int v3)] [] 160 := by
  intro v1 v2 v3 c h
  unfold m_readPart_P160 at h
  refine j_iload_n (pc := 160) hX dX10_readPart_160 rfl rfl ?_
  refine j_if_ne (pc := 161) (tgt := 178) hX dX10_readPart_161 (by decide) (fun z => ?_) (fun z => ?_)
  · replace h := ite_f z h
    refine j_sub (lv' := [(0, .ref 30), (1, .int v1), (2, .int v2), (3, .int v3)]) ⟨rfl, rfl, rfl, rfl, trivial⟩ ?_
    exact tj_m_readPart_P178 hX hdp hE _ _ _ _ h
  · replace h := ite_t z h
    refine j_iload_n (pc := 164) hX dX10_readPart_164 rfl rfl ?_
    refine j_iconst (pc := 165) (v := (4 : Int32)) hX dX10_readPart_165 (by decide) ?_
    refine j_icmp_ne (pc := 166) (tgt := 178) hX dX10_readPart_166 (by decide) (fun z => ?_) (fun z => ?_)
    · replace h := ite_f z h
      refine j_sub (lv' := [(0, .ref 30), (1, .int v1), (2, .int v2), (3, .int v3)]) ⟨rfl, rfl, rfl, rfl, trivial⟩ ?_
      exact tj_m_readPart_P178 hX hdp hE _ _ _ _ h
    · replace h := ite_t z h
      refine j_aload_n (pc := 169) hX dX10_readPart_169 rfl rfl ?_
      refine j_bipush (pc := 170) (v := (93 : Int32)) hX dX10_readPart_170 (by decide) ?_
      obtain ⟨_u, c14, h1, h⟩ := bd_some h
      refine k_callVV (pc := 172) (st := []) hX ln_10_261 dX10_readPart_172 (t_m_must (d := 1) (Nat.le_refl _) h1) rfl rfl rfl (by omega) (Nat.le_of_ble_eq_true rfl) ?_
      refine j_goto (pc := 175) (tgt := 332) hX dX10_readPart_175 (by decide) ?_
      obtain ⟨_, h⟩ := Prod.mk.inj (Option.some.inj h)
      subst h
      exact j_vret (pc := 332) hX hE dX10_readPart_332 (Nat.le_refl 0) (Nat.le_refl 0) ⟨rfl, rfl, rfl⟩
set_option maxHeartbeats 4000000 in
set_option maxRecDepth 100000 in
theorem tj_m_readPart_P101 {X : jX} {d : Nat} {r : jS} {cE : jS} (hX : jOk X RX10 cX10_readPart 6 d) (hdp : 2 ≤ d) (hE : jEnd X none 0 0 (fun r0 n0 h0 => r0 = none ∧ n0 = jN ∧ h0 = jE (jmix r cE))) : ∀ (v1 : Int32) (v2 : Int32) (v3 : Int32) (s1 : Int32) (s2 : Int32) (c : jS), m_readPart_P101 v1 v2 v3 s1 s2 c = some ((), cE) → J X 0 0 jN (jE (jmix r c)) [(0, .ref 30), (1, .int v1), (2, .int v2), (3, .int v3)] [.int s2, .int s1, .ref 47] 101 := by
  intro v1 v2 v3 s1 s2 c h
  unfold m_readPart_P101 at h
  obtain ⟨hg, h⟩ := gd_some h
  obtain ⟨c4, hc, h⟩ := lt_some h
  refine k_iast (pc := 101) (c' := jmix r c4) hX dX10_readPart_101 rfl hg (jmix_me rfl hc) ?_
  refine j_aload_n (pc := 102) hX dX10_readPart_102 rfl rfl ?_
  refine j_bipush (pc := 103) (v := (-2 : Int32)) hX dX10_readPart_103 (by decide) ?_
  obtain ⟨c5, hc, h⟩ := lt_some h
  refine k_putI (pc := 105) (c' := jmix r c5) hX pfl_10_151 dX10_readPart_105 rfl rfl (fun _ => ⟨rfl, rfl⟩) (jmix_me rfl hc) ?_
  refine j_iload_n (pc := 108) hX dX10_readPart_108 rfl rfl ?_
  refine j_if_ne (pc := 109) (tgt := 160) hX dX10_readPart_109 (by decide) (fun z => ?_) (fun z => ?_)
  · replace h := ite_f z h
    refine j_sub (lv' := [(0, .ref 30), (1, .int v1), (2, .int v2), (3, .int v3)]) ⟨rfl, rfl, rfl, rfl, trivial⟩ ?_
    exact tj_m_readPart_P160 hX hdp hE _ _ _ _ h
  · replace h := ite_t z h
    refine j_iload_n (pc := 112) hX dX10_readPart_112 rfl rfl ?_
    refine j_iconst (pc := 113) (v := (3 : Int32)) hX dX10_readPart_113 (by decide) ?_
    refine j_icmp_ne (pc := 114) (tgt := 160) hX dX10_readPart_114 (by decide) (fun z => ?_) (fun z => ?_)
    · replace h := ite_f z h
      refine j_sub (lv' := [(0, .ref 30), (1, .int v1), (2, .int v2), (3, .int v3)]) ⟨rfl, rfl, rfl, rfl, trivial⟩ ?_
      exact tj_m_readPart_P160 hX hdp hE _ _ _ _ h
    · replace h := ite_t z h
      refine j_aload_n (pc := 117) hX dX10_readPart_117 rfl rfl ?_
      refine k_getR (pc := 118) (q := 43) hX fl_10_54 dX10_readPart_118 rfl rfl ?_
      refine j_iload_n (pc := 121) hX dX10_readPart_121 rfl rfl ?_
      refine j_aload_n (pc := 122) hX dX10_readPart_122 rfl rfl ?_
      obtain ⟨r15, h1, h⟩ := ob_some h
      refine k_callVI (pc := 123) (st := [.int v1, .ref 43]) hX ln_10_257 dX10_readPart_123 (t_m_byteHere (d := 0) (Nat.le_refl _) h1) rfl rfl rfl (by omega) (Nat.le_of_ble_eq_true rfl) ?_
      refine j_bipush (pc := 126) (v := (43 : Int32)) hX dX10_readPart_126 (by decide) ?_
      refine j_icmp_ne (pc := 128) (tgt := 135) hX dX10_readPart_128 (by decide) (fun z => ?_) (fun z => ?_)
      · replace h := ite_f z h
        refine j_iconst (pc := 135) (v := (3 : Int32)) hX dX10_readPart_135 (by decide) ?_
        refine j_sub (lv' := [(0, .ref 30)]) ⟨rfl, trivial⟩ ?_
        exact tj_m_readPart_P136 hX hdp hE _ _ _ h
      · replace h := ite_t z h
        refine j_iconst (pc := 131) (v := (5 : Int32)) hX dX10_readPart_131 (by decide) ?_
        refine j_goto (pc := 132) (tgt := 136) hX dX10_readPart_132 (by decide) ?_
        refine j_sub (lv' := [(0, .ref 30)]) ⟨rfl, trivial⟩ ?_
        exact tj_m_readPart_P136 hX hdp hE _ _ _ h
set_option maxHeartbeats 4000000 in
set_option maxRecDepth 100000 in
theorem tj_m_readPart_P79 {X : jX} {d : Nat} {r : jS} {cE : jS} (hX : jOk X RX10 cX10_readPart 6 d) (hdp : 2 ≤ d) (hE : jEnd X none 0 0 (fun r0 n0 h0 => r0 = none ∧ n0 = jN ∧ h0 = jE (jmix r cE))) : ∀ (v1 : Int32) (v2 : Int32) (v3 : Int32) (v4 : Int32) (s1 : Int32) (s2 : Int32) (c : jS), m_readPart_P79 v1 v2 v3 v4 s1 s2 c = some ((), cE) → J X 0 0 jN (jE (jmix r c)) [(0, .ref 30), (1, .int v1), (2, .int v2), (3, .int v3), (4, .int v4)] [.int s2, .int s1, .ref 46] 79 := by
  intro v1 v2 v3 v4 s1 s2 c h
  unfold m_readPart_P79 at h
  obtain ⟨hg, h⟩ := gd_some h
  obtain ⟨c3, hc, h⟩ := lt_some h
  refine k_iast (pc := 79) (c' := jmix r c3) hX dX10_readPart_79 rfl hg (jmix_me rfl hc) ?_
  refine j_aload_n (pc := 80) hX dX10_readPart_80 rfl rfl ?_
  refine k_getR (pc := 81) (q := 47) hX fl_10_66 dX10_readPart_81 rfl rfl ?_
  refine j_iload_n (pc := 84) hX dX10_readPart_84 rfl rfl ?_
  refine j_iload_n (pc := 85) hX dX10_readPart_85 rfl rfl ?_
  refine j_iconst (pc := 86) (v := (2 : Int32)) hX dX10_readPart_86 (by decide) ?_
  refine j_icmp_ne (pc := 87) (tgt := 95) hX dX10_readPart_87 (by decide) (fun z => ?_) (fun z => ?_)
  · replace h := ite_f z h
    refine j_aload_n (pc := 95) hX dX10_readPart_95 rfl rfl ?_
    refine k_getR (pc := 96) (q := 47) hX fl_10_66 dX10_readPart_96 rfl rfl ?_
    refine j_iload_n (pc := 99) hX dX10_readPart_99 rfl rfl ?_
    obtain ⟨hg, h⟩ := gd_some h
    refine k_iald (pc := 100) (x := (c3 47 (v1).toNatClampNeg)) hX dX10_readPart_100 rfl hg rfl ?_
    refine j_sub (lv' := [(0, .ref 30), (1, .int v1), (2, .int v2), (3, .int v3)]) ⟨rfl, rfl, rfl, rfl, trivial⟩ ?_
    exact tj_m_readPart_P101 hX hdp hE _ _ _ _ _ _ h
  · replace h := ite_t z h
    refine j_iload (pc := 90) hX dX10_readPart_90 rfl ?_
    refine j_goto (pc := 92) (tgt := 101) hX dX10_readPart_92 (by decide) ?_
    refine j_sub (lv' := [(0, .ref 30), (1, .int v1), (2, .int v2), (3, .int v3)]) ⟨rfl, rfl, rfl, rfl, trivial⟩ ?_
    exact tj_m_readPart_P101 hX hdp hE _ _ _ _ _ _ h
set_option maxHeartbeats 4000000 in
set_option maxRecDepth 100000 in
theorem tj_m_readPart_P57 {X : jX} {d : Nat} {r : jS} {cE : jS} (hX : jOk X RX10 cX10_readPart 6 d) (hdp : 2 ≤ d) (hE : jEnd X none 0 0 (fun r0 n0 h0 => r0 = none ∧ n0 = jN ∧ h0 = jE (jmix r cE))) : ∀ (v1 : Int32) (v2 : Int32) (v3 : Int32) (v4 : Int32) (s1 : Int32) (s2 : Int32) (c : jS), m_readPart_P57 v1 v2 v3 v4 s1 s2 c = some ((), cE) → J X 0 0 jN (jE (jmix r c)) [(0, .ref 30), (1, .int v1), (2, .int v2), (3, .int v3), (4, .int v4)] [.int s2, .int s1, .ref 45] 57 := by
  intro v1 v2 v3 v4 s1 s2 c h
  unfold m_readPart_P57 at h
  obtain ⟨hg, h⟩ := gd_some h
  obtain ⟨c2, hc, h⟩ := lt_some h
  refine k_iast (pc := 57) (c' := jmix r c2) hX dX10_readPart_57 rfl hg (jmix_me rfl hc) ?_
  refine j_aload_n (pc := 58) hX dX10_readPart_58 rfl rfl ?_
  refine k_getR (pc := 59) (q := 46) hX fl_10_63 dX10_readPart_59 rfl rfl ?_
  refine j_iload_n (pc := 62) hX dX10_readPart_62 rfl rfl ?_
  refine j_iload_n (pc := 63) hX dX10_readPart_63 rfl rfl ?_
  refine j_iconst (pc := 64) (v := (1 : Int32)) hX dX10_readPart_64 (by decide) ?_
  refine j_icmp_ne (pc := 65) (tgt := 73) hX dX10_readPart_65 (by decide) (fun z => ?_) (fun z => ?_)
  · replace h := ite_f z h
    refine j_aload_n (pc := 73) hX dX10_readPart_73 rfl rfl ?_
    refine k_getR (pc := 74) (q := 46) hX fl_10_63 dX10_readPart_74 rfl rfl ?_
    refine j_iload_n (pc := 77) hX dX10_readPart_77 rfl rfl ?_
    obtain ⟨hg, h⟩ := gd_some h
    refine k_iald (pc := 78) (x := (c2 46 (v1).toNatClampNeg)) hX dX10_readPart_78 rfl hg rfl ?_
    refine j_sub (lv' := [(0, .ref 30), (1, .int v1), (2, .int v2), (3, .int v3), (4, .int v4)]) ⟨rfl, rfl, rfl, rfl, rfl, trivial⟩ ?_
    exact tj_m_readPart_P79 hX hdp hE _ _ _ _ _ _ _ h
  · replace h := ite_t z h
    refine j_iload (pc := 68) hX dX10_readPart_68 rfl ?_
    refine j_goto (pc := 70) (tgt := 79) hX dX10_readPart_70 (by decide) ?_
    refine j_sub (lv' := [(0, .ref 30), (1, .int v1), (2, .int v2), (3, .int v3), (4, .int v4)]) ⟨rfl, rfl, rfl, rfl, rfl, trivial⟩ ?_
    exact tj_m_readPart_P79 hX hdp hE _ _ _ _ _ _ _ h
set_option maxHeartbeats 4000000 in
set_option maxRecDepth 100000 in
theorem t_m_readPart {l : Launch} {D : va_G} {G : Nat → ClassId} {d : Nat} (hdp : 2 ≤ d) {c r : jS} {cE : jS} (h : m_readPart c = some ((), cE)) : jC l D G d M_m_readPart [.ref 30] (jmix r c) none (jmix r cE) := by
  refine jM_of rfl (Nat.le_of_ble_eq_true rfl) ?_
  intro X hl hD hG _ _ hX hE _
  subst hl hD hG
  unfold m_readPart at h
  show J X 0 0 jN (jE (jmix r c)) [(0, .ref 30)] [] 0
  refine j_aload_n (pc := 0) hX dX10_readPart_0 rfl rfl ?_
  refine k_getI (pc := 1) (x := (c 30 14)) hX fl_10_145 dX10_readPart_1 rfl rfl rfl ?_
  refine j_iconst (pc := 4) (v := (1 : Int32)) hX dX10_readPart_4 (by decide) ?_
  refine j_isub (pc := 5) hX dX10_readPart_5 ?_
  refine j_istore_n (pc := 6) hX dX10_readPart_6 rfl (by decide) (by decide) ?_
  refine j_aload_n (pc := 7) hX dX10_readPart_7 rfl rfl ?_
  refine k_getR (pc := 8) (q := 43) hX fl_10_54 dX10_readPart_8 rfl rfl ?_
  refine j_iload_n (pc := 11) hX dX10_readPart_11 rfl rfl ?_
  obtain ⟨hg, h⟩ := gd_some h
  refine k_iald (pc := 12) (x := (c 43 (((c 30 14) - (1 : Int32))).toNatClampNeg)) hX dX10_readPart_12 rfl hg rfl ?_
  refine j_istore_n (pc := 13) hX dX10_readPart_13 rfl (by decide) (by decide) ?_
  refine j_aload_n (pc := 14) hX dX10_readPart_14 rfl rfl ?_
  refine k_getR (pc := 15) (q := 44) hX fl_10_57 dX10_readPart_15 rfl rfl ?_
  refine j_iload_n (pc := 18) hX dX10_readPart_18 rfl rfl ?_
  obtain ⟨hg, h⟩ := gd_some h
  refine k_iald (pc := 19) (x := (c 44 (((c 30 14) - (1 : Int32))).toNatClampNeg)) hX dX10_readPart_19 rfl hg rfl ?_
  refine j_istore_n (pc := 20) hX dX10_readPart_20 rfl (by decide) (by decide) ?_
  refine j_aload_n (pc := 21) hX dX10_readPart_21 rfl rfl ?_
  refine k_getI (pc := 22) (x := (c 30 22)) hX fl_10_151 dX10_readPart_22 rfl rfl rfl ?_
  refine j_istore (pc := 25) hX dX10_readPart_25 (by decide) (by decide) ?_
  refine j_aload_n (pc := 27) hX dX10_readPart_27 rfl rfl ?_
  refine k_getR (pc := 28) (q := 44) hX fl_10_57 dX10_readPart_28 rfl rfl ?_
  refine j_iload_n (pc := 31) hX dX10_readPart_31 rfl rfl ?_
  refine j_dup2 (pc := 32) hX dX10_readPart_32 rfl rfl ?_
  obtain ⟨hg, h⟩ := gd_some h
  refine k_iald (pc := 33) (x := (c 44 (((c 30 14) - (1 : Int32))).toNatClampNeg)) hX dX10_readPart_33 rfl hg rfl ?_
  refine j_iconst (pc := 34) (v := (1 : Int32)) hX dX10_readPart_34 (by decide) ?_
  refine j_iadd (pc := 35) hX dX10_readPart_35 ?_
  obtain ⟨hg, h⟩ := gd_some h
  obtain ⟨c1, hc, h⟩ := lt_some h
  refine k_iast (pc := 36) (c' := jmix r c1) hX dX10_readPart_36 rfl hg (jmix_me rfl hc) ?_
  refine j_aload_n (pc := 37) hX dX10_readPart_37 rfl rfl ?_
  refine k_getR (pc := 38) (q := 45) hX fl_10_60 dX10_readPart_38 rfl rfl ?_
  refine j_iload_n (pc := 41) hX dX10_readPart_41 rfl rfl ?_
  refine j_iload_n (pc := 42) hX dX10_readPart_42 rfl rfl ?_
  refine j_if_ne (pc := 43) (tgt := 51) hX dX10_readPart_43 (by decide) (fun z => ?_) (fun z => ?_)
  · replace h := ite_f z h
    refine j_aload_n (pc := 51) hX dX10_readPart_51 rfl rfl ?_
    refine k_getR (pc := 52) (q := 45) hX fl_10_60 dX10_readPart_52 rfl rfl ?_
    refine j_iload_n (pc := 55) hX dX10_readPart_55 rfl rfl ?_
    obtain ⟨hg, h⟩ := gd_some h
    refine k_iald (pc := 56) (x := (c1 45 (((c 30 14) - (1 : Int32))).toNatClampNeg)) hX dX10_readPart_56 rfl hg rfl ?_
    refine j_sub (lv' := [(0, .ref 30), (1, .int ((c 30 14) - (1 : Int32))), (2, .int (c 43 (((c 30 14) - (1 : Int32))).toNatClampNeg)), (3, .int (c 44 (((c 30 14) - (1 : Int32))).toNatClampNeg)), (4, .int (c 30 22))]) ⟨rfl, rfl, rfl, rfl, rfl, trivial⟩ ?_
    exact tj_m_readPart_P57 hX hdp hE _ _ _ _ _ _ _ h
  · replace h := ite_t z h
    refine j_iload (pc := 46) hX dX10_readPart_46 rfl ?_
    refine j_goto (pc := 48) (tgt := 57) hX dX10_readPart_48 (by decide) ?_
    refine j_sub (lv' := [(0, .ref 30), (1, .int ((c 30 14) - (1 : Int32))), (2, .int (c 43 (((c 30 14) - (1 : Int32))).toNatClampNeg)), (3, .int (c 44 (((c 30 14) - (1 : Int32))).toNatClampNeg)), (4, .int (c 30 22))]) ⟨rfl, rfl, rfl, rfl, rfl, trivial⟩ ?_
    exact tj_m_readPart_P57 hX hdp hE _ _ _ _ _ _ _ h

set_option maxHeartbeats 4000000 in
set_option maxRecDepth 100000 in
theorem t_m_begins {l : Launch} {D : va_G} {G : Nat → ClassId} {d : Nat} (hdp : 1 ≤ d) {c r : jS} {a0 : Int32} {vE : Int32} (h : m_begins c a0 = some vE) : jC l D G d M_m_begins [.int a0] (jmix r c) (some (.int vE)) (jmix r c) := by
  refine jM_of rfl (Nat.le_of_ble_eq_true rfl) ?_
  intro X hl hD hG _ _ hX hE _
  subst hl hD hG
  unfold m_begins at h
  show J X 0 0 jN (jE (jmix r c)) [(0, .int a0)] [] 0
  refine j_iload_n (pc := 0) hX dX10_begins_0 rfl rfl ?_
  refine j_bipush (pc := 1) (v := (97 : Int32)) hX dX10_begins_1 (by decide) ?_
  refine j_bipush (pc := 3) (v := (122 : Int32)) hX dX10_begins_3 (by decide) ?_
  obtain ⟨r1, h1, h⟩ := ob_some h
  refine k_callSI (pc := 5) (st := []) hX ln_10_3 dX10_begins_5 (t_m_in (d := 0) (Nat.le_refl _) h1) rfl rfl (by omega) (Nat.le_of_ble_eq_true rfl) ?_
  refine j_if_ne (pc := 8) (tgt := 52) hX dX10_begins_8 (by decide) (fun z => ?_) (fun z => ?_)
  · replace h := ite_f z h
    refine j_iconst (pc := 52) (v := (1 : Int32)) hX dX10_begins_52 (by decide) ?_
    refine j_goto (pc := 53) (tgt := 57) hX dX10_begins_53 (by decide) ?_
    replace h := Option.some.inj h
    subst h
    exact j_iret (pc := 57) hX hE rfl rfl dX10_begins_57 (Nat.le_refl 0) (Nat.le_refl 0) ⟨rfl, rfl, rfl⟩
  · replace h := ite_t z h
    refine j_iload_n (pc := 11) hX dX10_begins_11 rfl rfl ?_
    refine j_bipush (pc := 12) (v := (48 : Int32)) hX dX10_begins_12 (by decide) ?_
    refine j_bipush (pc := 14) (v := (57 : Int32)) hX dX10_begins_14 (by decide) ?_
    obtain ⟨r2, h1, h⟩ := ob_some h
    refine k_callSI (pc := 16) (st := []) hX ln_10_3 dX10_begins_16 (t_m_in (d := 0) (Nat.le_refl _) h1) rfl rfl (by omega) (Nat.le_of_ble_eq_true rfl) ?_
    refine j_if_ne (pc := 19) (tgt := 52) hX dX10_begins_19 (by decide) (fun z => ?_) (fun z => ?_)
    · replace h := ite_f z h
      refine j_iconst (pc := 52) (v := (1 : Int32)) hX dX10_begins_52 (by decide) ?_
      refine j_goto (pc := 53) (tgt := 57) hX dX10_begins_53 (by decide) ?_
      replace h := Option.some.inj h
      subst h
      exact j_iret (pc := 57) hX hE rfl rfl dX10_begins_57 (Nat.le_refl 0) (Nat.le_refl 0) ⟨rfl, rfl, rfl⟩
    · replace h := ite_t z h
      refine j_iload_n (pc := 22) hX dX10_begins_22 rfl rfl ?_
      refine j_bipush (pc := 23) (v := (45 : Int32)) hX dX10_begins_23 (by decide) ?_
      refine j_icmp_eq (pc := 25) (tgt := 52) hX dX10_begins_25 (by decide) (fun z => ?_) (fun z => ?_)
      · replace h := ite_t z h
        refine j_iconst (pc := 52) (v := (1 : Int32)) hX dX10_begins_52 (by decide) ?_
        refine j_goto (pc := 53) (tgt := 57) hX dX10_begins_53 (by decide) ?_
        replace h := Option.some.inj h
        subst h
        exact j_iret (pc := 57) hX hE rfl rfl dX10_begins_57 (Nat.le_refl 0) (Nat.le_refl 0) ⟨rfl, rfl, rfl⟩
      · replace h := ite_f z h
        refine j_iload_n (pc := 28) hX dX10_begins_28 rfl rfl ?_
        refine j_bipush (pc := 29) (v := (92 : Int32)) hX dX10_begins_29 (by decide) ?_
        refine j_icmp_eq (pc := 31) (tgt := 52) hX dX10_begins_31 (by decide) (fun z => ?_) (fun z => ?_)
        · replace h := ite_t z h
          refine j_iconst (pc := 52) (v := (1 : Int32)) hX dX10_begins_52 (by decide) ?_
          refine j_goto (pc := 53) (tgt := 57) hX dX10_begins_53 (by decide) ?_
          replace h := Option.some.inj h
          subst h
          exact j_iret (pc := 57) hX hE rfl rfl dX10_begins_57 (Nat.le_refl 0) (Nat.le_refl 0) ⟨rfl, rfl, rfl⟩
        · replace h := ite_f z h
          refine j_iload_n (pc := 34) hX dX10_begins_34 rfl rfl ?_
          refine j_bipush (pc := 35) (v := (40 : Int32)) hX dX10_begins_35 (by decide) ?_
          refine j_icmp_eq (pc := 37) (tgt := 52) hX dX10_begins_37 (by decide) (fun z => ?_) (fun z => ?_)
          · replace h := ite_t z h
            refine j_iconst (pc := 52) (v := (1 : Int32)) hX dX10_begins_52 (by decide) ?_
            refine j_goto (pc := 53) (tgt := 57) hX dX10_begins_53 (by decide) ?_
            replace h := Option.some.inj h
            subst h
            exact j_iret (pc := 57) hX hE rfl rfl dX10_begins_57 (Nat.le_refl 0) (Nat.le_refl 0) ⟨rfl, rfl, rfl⟩
          · replace h := ite_f z h
            refine j_iload_n (pc := 40) hX dX10_begins_40 rfl rfl ?_
            refine j_bipush (pc := 41) (v := (91 : Int32)) hX dX10_begins_41 (by decide) ?_
            refine j_icmp_eq (pc := 43) (tgt := 52) hX dX10_begins_43 (by decide) (fun z => ?_) (fun z => ?_)
            · replace h := ite_t z h
              refine j_iconst (pc := 52) (v := (1 : Int32)) hX dX10_begins_52 (by decide) ?_
              refine j_goto (pc := 53) (tgt := 57) hX dX10_begins_53 (by decide) ?_
              replace h := Option.some.inj h
              subst h
              exact j_iret (pc := 57) hX hE rfl rfl dX10_begins_57 (Nat.le_refl 0) (Nat.le_refl 0) ⟨rfl, rfl, rfl⟩
            · replace h := ite_f z h
              refine j_iload_n (pc := 46) hX dX10_begins_46 rfl rfl ?_
              refine j_bipush (pc := 47) (v := (123 : Int32)) hX dX10_begins_47 (by decide) ?_
              refine j_icmp_ne (pc := 49) (tgt := 56) hX dX10_begins_49 (by decide) (fun z => ?_) (fun z => ?_)
              · replace h := ite_f z h
                refine j_iconst (pc := 56) (v := (0 : Int32)) hX dX10_begins_56 (by decide) ?_
                replace h := Option.some.inj h
                subst h
                exact j_iret (pc := 57) hX hE rfl rfl dX10_begins_57 (Nat.le_refl 0) (Nat.le_refl 0) ⟨rfl, rfl, rfl⟩
              · replace h := ite_t z h
                refine j_iconst (pc := 52) (v := (1 : Int32)) hX dX10_begins_52 (by decide) ?_
                refine j_goto (pc := 53) (tgt := 57) hX dX10_begins_53 (by decide) ?_
                replace h := Option.some.inj h
                subst h
                exact j_iret (pc := 57) hX hE rfl rfl dX10_begins_57 (Nat.le_refl 0) (Nat.le_refl 0) ⟨rfl, rfl, rfl⟩

set_option maxHeartbeats 4000000 in
set_option maxRecDepth 100000 in
theorem tj_m_read_P54_31 {X : jX} {d : Nat} {r : jS} {vE : Int32} {cE : jS} (hX : jOk X RX10 cX10_read 3 d) (hdp : 4 ≤ d) (hE : jEnd X (some .int) 0 0 (fun r0 n0 h0 => r0 = (some (.int vE)) ∧ n0 = jN ∧ h0 = jE (jmix r cE))) {k_31 : Nat} (ih_31 : ∀ (v1 : Int32) (v2 : Int32) (c : jS), lpk (fun s : (Int32 × Int32 × jS) => m_read_S31 s.1 s.2.1 s.2.2) k_31 (v1, v2, c) = some (vE, cE) → J X 0 0 jN (jE (jmix r c)) [(0, .ref 30), (1, .int v1), (2, .int v2)] [] 31) : ∀ (v1 : Int32) (v2 : Int32) (c : jS), lq (fun s : (Int32 × Int32 × jS) => m_read_S31 s.1 s.2.1 s.2.2) k_31 (vE, cE) (m_read_P54_31 v1 v2 c) → J X 0 0 jN (jE (jmix r c)) [(0, .ref 30), (1, .int v1), (2, .int v2)] [] 54 := by
  intro v1 v2 c h
  conv at h => arg 4; unfold m_read_P54_31
  refine j_aload_n (pc := 54) hX dX10_read_54 rfl rfl ?_
  refine k_getI (pc := 55) (x := (c 30 22)) hX fl_10_151 dX10_read_55 rfl rfl rfl ?_
  refine j_bipush (pc := 58) (v := (-2 : Int32)) hX dX10_read_58 (by decide) ?_
  refine j_icmp_eq (pc := 60) (tgt := 70) hX dX10_read_60 (by decide) (fun z => ?_) (fun z => ?_)
  · replace h := lq_t z h
    refine j_aload_n (pc := 70) hX dX10_read_70 rfl rfl ?_
    refine k_getI (pc := 71) (x := (c 30 14)) hX fl_10_145 dX10_read_71 rfl rfl rfl ?_
    refine j_bipush (pc := 74) (v := (40 : Int32)) hX dX10_read_74 (by decide) ?_
    refine j_icmp_ne (pc := 76) (tgt := 101) hX dX10_read_76 (by decide) (fun z => ?_) (fun z => ?_)
    · replace h := lq_f z h
      refine j_aload_n (pc := 101) hX dX10_read_101 rfl rfl ?_
      obtain ⟨_u, c9, h1, h⟩ := lq_bd h
      refine k_callVV (pc := 102) (st := []) hX ln_10_288 dX10_read_102 (t_m_readBegin (d := 3) (Nat.le_refl _) h1) rfl rfl rfl (by omega) (Nat.le_of_ble_eq_true rfl) ?_
      refine j_goto (pc := 105) (tgt := 31) hX dX10_read_105 (by decide) ?_
      refine j_sub (lv' := [(0, .ref 30), (1, .int v1), (2, .int v2)]) ⟨rfl, rfl, rfl, trivial⟩ ?_
      exact ih_31 _ _ _ (lq_l h)
    · replace h := lq_t z h
      refine j_aload_n (pc := 79) hX dX10_read_79 rfl rfl ?_
      refine j_aload_n (pc := 80) hX dX10_read_80 rfl rfl ?_
      obtain ⟨r10, h1, h⟩ := lq_ob h
      refine k_callVI (pc := 81) (st := [.ref 30]) hX ln_10_257 dX10_read_81 (t_m_byteHere (d := 0) (Nat.le_refl _) h1) rfl rfl rfl (by omega) (Nat.le_of_ble_eq_true rfl) ?_
      obtain ⟨r11, h1, h⟩ := lq_ob h
      refine k_callSI (pc := 84) (st := [.ref 30]) hX ln_10_285 dX10_read_84 (t_m_begins (d := 1) (Nat.le_refl _) h1) rfl rfl (by omega) (Nat.le_of_ble_eq_true rfl) ?_
      refine j_if_eq (pc := 87) (tgt := 94) hX dX10_read_87 (by decide) (fun z => ?_) (fun z => ?_)
      · replace h := lq_t z h
        refine j_iconst (pc := 94) (v := (1 : Int32)) hX dX10_read_94 (by decide) ?_
        obtain ⟨c12, hc, h⟩ := lq_lt h
        refine k_putI (pc := 95) (c' := jmix r c12) hX pfl_10_254 dX10_read_95 rfl rfl (fun _ => ⟨rfl, rfl⟩) (jmix_me rfl hc) ?_
        refine j_goto (pc := 98) (tgt := 31) hX dX10_read_98 (by decide) ?_
        refine j_sub (lv' := [(0, .ref 30), (1, .int v1), (2, .int v2)]) ⟨rfl, rfl, rfl, trivial⟩ ?_
        exact ih_31 _ _ _ (lq_l h)
      · replace h := lq_f z h
        refine j_iconst (pc := 90) (v := (2 : Int32)) hX dX10_read_90 (by decide) ?_
        refine j_goto (pc := 91) (tgt := 95) hX dX10_read_91 (by decide) ?_
        obtain ⟨c13, hc, h⟩ := lq_lt h
        refine k_putI (pc := 95) (c' := jmix r c13) hX pfl_10_254 dX10_read_95 rfl rfl (fun _ => ⟨rfl, rfl⟩) (jmix_me rfl hc) ?_
        refine j_goto (pc := 98) (tgt := 31) hX dX10_read_98 (by decide) ?_
        refine j_sub (lv' := [(0, .ref 30), (1, .int v1), (2, .int v2)]) ⟨rfl, rfl, rfl, trivial⟩ ?_
        exact ih_31 _ _ _ (lq_l h)
  · replace h := lq_f z h
    refine j_aload_n (pc := 63) hX dX10_read_63 rfl rfl ?_
    obtain ⟨_u, c14, h1, h⟩ := lq_bd h
    refine k_callVV (pc := 64) (st := []) hX ln_10_282 dX10_read_64 (t_m_readPart (d := 2) (Nat.le_refl _) h1) rfl rfl rfl (by omega) (Nat.le_of_ble_eq_true rfl) ?_
    refine j_goto (pc := 67) (tgt := 31) hX dX10_read_67 (by decide) ?_
    refine j_sub (lv' := [(0, .ref 30), (1, .int v1), (2, .int v2)]) ⟨rfl, rfl, rfl, trivial⟩ ?_
    exact ih_31 _ _ _ (lq_l h)
set_option maxHeartbeats 4000000 in
set_option maxRecDepth 100000 in
theorem tj_m_read_P131_31 {X : jX} {d : Nat} {r : jS} {vE : Int32} {cE : jS} (hX : jOk X RX10 cX10_read 3 d) (hdp : 4 ≤ d) (hE : jEnd X (some .int) 0 0 (fun r0 n0 h0 => r0 = (some (.int vE)) ∧ n0 = jN ∧ h0 = jE (jmix r cE))) {k_31 : Nat} (ih_31 : ∀ (v1 : Int32) (v2 : Int32) (c : jS), lpk (fun s : (Int32 × Int32 × jS) => m_read_S31 s.1 s.2.1 s.2.2) k_31 (v1, v2, c) = some (vE, cE) → J X 0 0 jN (jE (jmix r c)) [(0, .ref 30), (1, .int v1), (2, .int v2)] [] 31) : ∀ (v1 : Int32) (v2 : Int32) (c : jS), lq (fun s : (Int32 × Int32 × jS) => m_read_S31 s.1 s.2.1 s.2.2) k_31 (vE, cE) (m_read_P131_31 v1 v2 c) → J X 0 0 jN (jE (jmix r c)) [(0, .ref 30), (1, .int v1), (2, .int v2)] [] 131 := by
  intro v1 v2 c h
  conv at h => arg 4; unfold m_read_P131_31
  refine j_aload_n (pc := 131) hX dX10_read_131 rfl rfl ?_
  refine j_iconst (pc := 132) (v := (0 : Int32)) hX dX10_read_132 (by decide) ?_
  obtain ⟨c5, hc, h⟩ := lq_lt h
  refine k_putI (pc := 133) (c' := jmix r c5) hX pfl_10_248 dX10_read_133 rfl rfl (fun _ => ⟨rfl, rfl⟩) (jmix_me rfl hc) ?_
  refine j_aload_n (pc := 136) hX dX10_read_136 rfl rfl ?_
  refine k_getI (pc := 137) (x := (c5 30 42)) hX fl_10_254 dX10_read_137 rfl rfl rfl ?_
  refine j_if_le (pc := 140) (tgt := 174) hX dX10_read_140 (by decide) (fun z => ?_) (fun z => ?_)
  · replace h := lq_t z h
    refine j_aload_n (pc := 174) hX dX10_read_174 rfl rfl ?_
    refine k_getI (pc := 175) (x := (c5 30 22)) hX fl_10_151 dX10_read_175 rfl rfl rfl ?_
    replace h := lq_r h
    obtain ⟨h, h0⟩ := Prod.mk.inj (Option.some.inj h)
    subst h h0
    exact j_iret (pc := 178) hX hE rfl rfl dX10_read_178 (Nat.le_refl 0) (Nat.le_refl 0) ⟨rfl, rfl, rfl⟩
  · replace h := lq_f z h
    refine j_aload_n (pc := 143) hX dX10_read_143 rfl rfl ?_
    refine j_iload_n (pc := 144) hX dX10_read_144 rfl rfl ?_
    obtain ⟨c6, hc, h⟩ := lq_lt h
    refine k_putI (pc := 145) (c' := jmix r c6) hX pfl_10_119 dX10_read_145 rfl rfl (fun _ => ⟨rfl, rfl⟩) (jmix_me rfl hc) ?_
    refine j_aload_n (pc := 148) hX dX10_read_148 rfl rfl ?_
    refine j_iload_n (pc := 149) hX dX10_read_149 rfl rfl ?_
    obtain ⟨c7, hc, h⟩ := lq_lt h
    refine k_putI (pc := 150) (c' := jmix r c7) hX pfl_10_13 dX10_read_150 rfl rfl (fun _ => ⟨rfl, rfl⟩) (jmix_me rfl hc) ?_
    refine j_aload_n (pc := 153) hX dX10_read_153 rfl rfl ?_
    refine k_getI (pc := 154) (x := (c7 30 42)) hX fl_10_254 dX10_read_154 rfl rfl rfl ?_
    refine j_iconst (pc := 157) (v := (2 : Int32)) hX dX10_read_157 (by decide) ?_
    refine j_icmp_ne (pc := 158) (tgt := 166) hX dX10_read_158 (by decide) (fun z => ?_) (fun z => ?_)
    · replace h := lq_f z h
      refine j_bipush (pc := 166) (v := (-10 : Int32)) hX dX10_read_166 (by decide) ?_
      refine j_aload_n (pc := 168) hX dX10_read_168 rfl rfl ?_
      refine k_getI (pc := 169) (x := (c7 30 41)) hX fl_10_251 dX10_read_169 rfl rfl rfl ?_
      refine j_isub (pc := 172) hX dX10_read_172 ?_
      replace h := lq_r h
      obtain ⟨h, h0⟩ := Prod.mk.inj (Option.some.inj h)
      subst h h0
      exact j_iret (pc := 173) hX hE rfl rfl dX10_read_173 (Nat.le_refl 0) (Nat.le_refl 0) ⟨rfl, rfl, rfl⟩
    · replace h := lq_t z h
      refine j_bipush (pc := 161) (v := (-3 : Int32)) hX dX10_read_161 (by decide) ?_
      refine j_goto (pc := 163) (tgt := 173) hX dX10_read_163 (by decide) ?_
      replace h := lq_r h
      obtain ⟨h, h0⟩ := Prod.mk.inj (Option.some.inj h)
      subst h h0
      exact j_iret (pc := 173) hX hE rfl rfl dX10_read_173 (Nat.le_refl 0) (Nat.le_refl 0) ⟨rfl, rfl, rfl⟩
set_option maxHeartbeats 4000000 in
set_option maxRecDepth 100000 in
theorem tj_m_read_P108_31 {X : jX} {d : Nat} {r : jS} {vE : Int32} {cE : jS} (hX : jOk X RX10 cX10_read 3 d) (hdp : 4 ≤ d) (hE : jEnd X (some .int) 0 0 (fun r0 n0 h0 => r0 = (some (.int vE)) ∧ n0 = jN ∧ h0 = jE (jmix r cE))) {k_31 : Nat} (ih_31 : ∀ (v1 : Int32) (v2 : Int32) (c : jS), lpk (fun s : (Int32 × Int32 × jS) => m_read_S31 s.1 s.2.1 s.2.2) k_31 (v1, v2, c) = some (vE, cE) → J X 0 0 jN (jE (jmix r c)) [(0, .ref 30), (1, .int v1), (2, .int v2)] [] 31) : ∀ (v1 : Int32) (v2 : Int32) (c : jS), lq (fun s : (Int32 × Int32 × jS) => m_read_S31 s.1 s.2.1 s.2.2) k_31 (vE, cE) (m_read_P108_31 v1 v2 c) → J X 0 0 jN (jE (jmix r c)) [(0, .ref 30), (1, .int v1), (2, .int v2)] [] 108 := by
  intro v1 v2 c h
  conv at h => arg 4; unfold m_read_P108_31
  refine j_aload_n (pc := 108) hX dX10_read_108 rfl rfl ?_
  refine k_getI (pc := 109) (x := (c 30 42)) hX fl_10_254 dX10_read_109 rfl rfl rfl ?_
  refine j_if_ne (pc := 112) (tgt := 131) hX dX10_read_112 (by decide) (fun z => ?_) (fun z => ?_)
  · replace h := lq_f z h
    refine j_sub (lv' := [(0, .ref 30), (1, .int v1), (2, .int v2)]) ⟨rfl, rfl, rfl, trivial⟩ ?_
    exact tj_m_read_P131_31 hX hdp hE ih_31 _ _ _ h
  · replace h := lq_t z h
    refine j_aload_n (pc := 115) hX dX10_read_115 rfl rfl ?_
    refine k_getI (pc := 116) (x := (c 30 41)) hX fl_10_251 dX10_read_116 rfl rfl rfl ?_
    refine j_aload_n (pc := 119) hX dX10_read_119 rfl rfl ?_
    refine k_getI (pc := 120) (x := (c 30 40)) hX fl_10_248 dX10_read_120 rfl rfl rfl ?_
    refine j_icmp_ge (pc := 123) (tgt := 131) hX dX10_read_123 (by decide) (fun z => ?_) (fun z => ?_)
    · replace h := lq_t z h
      refine j_sub (lv' := [(0, .ref 30), (1, .int v1), (2, .int v2)]) ⟨rfl, rfl, rfl, trivial⟩ ?_
      exact tj_m_read_P131_31 hX hdp hE ih_31 _ _ _ h
    · replace h := lq_f z h
      refine j_aload_n (pc := 126) hX dX10_read_126 rfl rfl ?_
      refine j_iconst (pc := 127) (v := (1 : Int32)) hX dX10_read_127 (by decide) ?_
      obtain ⟨c8, hc, h⟩ := lq_lt h
      refine k_putI (pc := 128) (c' := jmix r c8) hX pfl_10_254 dX10_read_128 rfl rfl (fun _ => ⟨rfl, rfl⟩) (jmix_me rfl hc) ?_
      refine j_sub (lv' := [(0, .ref 30), (1, .int v1), (2, .int v2)]) ⟨rfl, rfl, rfl, trivial⟩ ?_
      exact tj_m_read_P131_31 hX hdp hE ih_31 _ _ _ h
set_option maxHeartbeats 4000000 in
set_option maxRecDepth 100000 in
theorem tl_m_read_L31 {X : jX} {d : Nat} {r : jS} {vE : Int32} {cE : jS} (hX : jOk X RX10 cX10_read 3 d) (hdp : 4 ≤ d) (hE : jEnd X (some .int) 0 0 (fun r0 n0 h0 => r0 = (some (.int vE)) ∧ n0 = jN ∧ h0 = jE (jmix r cE))) : ∀ (v1 : Int32) (v2 : Int32) (c : jS), m_read_L31 v1 v2 c = some (vE, cE) → J X 0 0 jN (jE (jmix r c)) [(0, .ref 30), (1, .int v1), (2, .int v2)] [] 31 := by
  intro v1 v2 c h
  unfold m_read_L31 at h
  replace h := lp_some h
  obtain ⟨k_31, h⟩ := h
  induction k_31 generalizing v1 v2 c with
  | zero => cases h
  | succ k_31 ih_31 =>
    replace h : lq (fun s : (Int32 × Int32 × jS) => m_read_S31 s.1 s.2.1 s.2.2) k_31 (vE, cE) (m_read_S31 v1 v2 c) := lpk_succ (s := (v1, v2, c)) h
    conv at h => arg 4; unfold m_read_S31
    refine j_aload_n (pc := 31) hX dX10_read_31 rfl rfl ?_
    refine k_getI (pc := 32) (x := (c 30 42)) hX fl_10_254 dX10_read_32 rfl rfl rfl ?_
    refine j_if_ne (pc := 35) (tgt := 108) hX dX10_read_35 (by decide) (fun z => ?_) (fun z => ?_)
    · replace h := lq_f z h
      refine j_sub (lv' := [(0, .ref 30), (1, .int v1), (2, .int v2)]) ⟨rfl, rfl, rfl, trivial⟩ ?_
      exact tj_m_read_P108_31 hX hdp hE ih_31 _ _ _ h
    · replace h := lq_t z h
      refine j_aload_n (pc := 38) hX dX10_read_38 rfl rfl ?_
      refine k_getI (pc := 39) (x := (c 30 14)) hX fl_10_145 dX10_read_39 rfl rfl rfl ?_
      refine j_if_gt (pc := 42) (tgt := 54) hX dX10_read_42 (by decide) (fun z => ?_) (fun z => ?_)
      · replace h := lq_t z h
        refine j_sub (lv' := [(0, .ref 30), (1, .int v1), (2, .int v2)]) ⟨rfl, rfl, rfl, trivial⟩ ?_
        exact tj_m_read_P54_31 hX hdp hE ih_31 _ _ _ h
      · replace h := lq_f z h
        refine j_aload_n (pc := 45) hX dX10_read_45 rfl rfl ?_
        refine k_getI (pc := 46) (x := (c 30 22)) hX fl_10_151 dX10_read_46 rfl rfl rfl ?_
        refine j_bipush (pc := 49) (v := (-2 : Int32)) hX dX10_read_49 (by decide) ?_
        refine j_icmp_ne (pc := 51) (tgt := 108) hX dX10_read_51 (by decide) (fun z => ?_) (fun z => ?_)
        · replace h := lq_f z h
          refine j_sub (lv' := [(0, .ref 30), (1, .int v1), (2, .int v2)]) ⟨rfl, rfl, rfl, trivial⟩ ?_
          exact tj_m_read_P108_31 hX hdp hE ih_31 _ _ _ h
        · replace h := lq_t z h
          refine j_sub (lv' := [(0, .ref 30), (1, .int v1), (2, .int v2)]) ⟨rfl, rfl, rfl, trivial⟩ ?_
          exact tj_m_read_P54_31 hX hdp hE ih_31 _ _ _ h
set_option maxHeartbeats 4000000 in
set_option maxRecDepth 100000 in
theorem t_m_read {l : Launch} {D : va_G} {G : Nat → ClassId} {d : Nat} (hdp : 4 ≤ d) {c r : jS} {vE : Int32} {cE : jS} (h : m_read c = some (vE, cE)) : jC l D G d M_m_read [.ref 30] (jmix r c) (some (.int vE)) (jmix r cE) := by
  refine jM_of rfl (Nat.le_of_ble_eq_true rfl) ?_
  intro X hl hD hG _ _ hX hE _
  subst hl hD hG
  unfold m_read at h
  show J X 0 0 jN (jE (jmix r c)) [(0, .ref 30)] [] 0
  refine j_aload_n (pc := 0) hX dX10_read_0 rfl rfl ?_
  refine k_getI (pc := 1) (x := (c 30 5)) hX fl_10_119 dX10_read_1 rfl rfl rfl ?_
  refine j_istore_n (pc := 4) hX dX10_read_4 rfl (by decide) (by decide) ?_
  refine j_aload_n (pc := 5) hX dX10_read_5 rfl rfl ?_
  refine k_getI (pc := 6) (x := (c 30 0)) hX fl_10_13 dX10_read_6 rfl rfl rfl ?_
  refine j_istore_n (pc := 9) hX dX10_read_9 rfl (by decide) (by decide) ?_
  refine j_aload_n (pc := 10) hX dX10_read_10 rfl rfl ?_
  refine j_iconst (pc := 11) (v := (0 : Int32)) hX dX10_read_11 (by decide) ?_
  obtain ⟨c1, hc, h⟩ := lt_some h
  refine k_putI (pc := 12) (c' := jmix r c1) hX pfl_10_251 dX10_read_12 rfl rfl (fun _ => ⟨rfl, rfl⟩) (jmix_me rfl hc) ?_
  refine j_aload_n (pc := 15) hX dX10_read_15 rfl rfl ?_
  refine j_iconst (pc := 16) (v := (0 : Int32)) hX dX10_read_16 (by decide) ?_
  obtain ⟨c2, hc, h⟩ := lt_some h
  refine k_putI (pc := 17) (c' := jmix r c2) hX pfl_10_254 dX10_read_17 rfl rfl (fun _ => ⟨rfl, rfl⟩) (jmix_me rfl hc) ?_
  refine j_aload_n (pc := 20) hX dX10_read_20 rfl rfl ?_
  refine j_iconst (pc := 21) (v := (0 : Int32)) hX dX10_read_21 (by decide) ?_
  obtain ⟨c3, hc, h⟩ := lt_some h
  refine k_putI (pc := 22) (c' := jmix r c3) hX pfl_10_145 dX10_read_22 rfl rfl (fun _ => ⟨rfl, rfl⟩) (jmix_me rfl hc) ?_
  refine j_aload_n (pc := 25) hX dX10_read_25 rfl rfl ?_
  refine j_bipush (pc := 26) (v := (-2 : Int32)) hX dX10_read_26 (by decide) ?_
  obtain ⟨c4, hc, h⟩ := lt_some h
  refine k_putI (pc := 28) (c' := jmix r c4) hX pfl_10_151 dX10_read_28 rfl rfl (fun _ => ⟨rfl, rfl⟩) (jmix_me rfl hc) ?_
  refine j_sub (lv' := [(0, .ref 30), (1, .int (c 30 5)), (2, .int (c 30 0))]) ⟨rfl, rfl, rfl, trivial⟩ ?_
  exact tl_m_read_L31 hX hdp hE _ _ _ h

set_option maxHeartbeats 4000000 in
set_option maxRecDepth 100000 in
theorem t_m_count {l : Launch} {D : va_G} {G : Nat → ClassId} {d : Nat} (hdp : 0 ≤ d) {c r : jS} {a1 : Int32} {vE : Int32} (h : m_count c a1 = some vE) : jC l D G d M_m_count [.ref 30, .int a1] (jmix r c) (some (.int vE)) (jmix r c) := by
  refine jM_of rfl (Nat.le_of_ble_eq_true rfl) ?_
  intro X hl hD hG _ _ hX hE _
  subst hl hD hG
  unfold m_count at h
  show J X 0 0 jN (jE (jmix r c)) [(0, .ref 30), (1, .int a1)] [] 0
  refine j_iload_n (pc := 0) hX dX10_count_0 rfl rfl ?_
  by_cases z0 : a1 = 0
  · replace h := ite_t z0 h
    refine j_tabEq (pc := 1) (tgt := 32) 0 hX dX10_count_1 z0 (by decide) (by decide) rfl (by decide) ?_
    refine j_aload_n (pc := 32) hX dX10_count_32 rfl rfl ?_
    refine k_getI (pc := 33) (x := (c 30 5)) hX fl_10_119 dX10_count_33 rfl rfl rfl ?_
    replace h := Option.some.inj h
    subst h
    exact j_iret (pc := 36) hX hE rfl rfl dX10_count_36 (Nat.le_refl 0) (Nat.le_refl 0) ⟨rfl, rfl, rfl⟩
  replace h := ite_f z0 h
  by_cases z1 : a1 = 1
  · replace h := ite_t z1 h
    refine j_tabEq (pc := 1) (tgt := 37) 1 hX dX10_count_1 z1 (by decide) (by decide) rfl (by decide) ?_
    refine j_aload_n (pc := 37) hX dX10_count_37 rfl rfl ?_
    refine k_getI (pc := 38) (x := (c 30 0)) hX fl_10_13 dX10_count_38 rfl rfl rfl ?_
    replace h := Option.some.inj h
    subst h
    exact j_iret (pc := 41) hX hE rfl rfl dX10_count_41 (Nat.le_refl 0) (Nat.le_refl 0) ⟨rfl, rfl, rfl⟩
  replace h := ite_f z1 h
  by_cases z2 : a1 = 2
  · replace h := ite_t z2 h
    refine j_tabEq (pc := 1) (tgt := 42) 2 hX dX10_count_1 z2 (by decide) (by decide) rfl (by decide) ?_
    refine j_aload_n (pc := 42) hX dX10_count_42 rfl rfl ?_
    refine k_getI (pc := 43) (x := (c 30 40)) hX fl_10_248 dX10_count_43 rfl rfl rfl ?_
    replace h := Option.some.inj h
    subst h
    exact j_iret (pc := 46) hX hE rfl rfl dX10_count_46 (Nat.le_refl 0) (Nat.le_refl 0) ⟨rfl, rfl, rfl⟩
  replace h := ite_f z2 h
  by_cases z3 : a1 = 3
  · replace h := ite_t z3 h
    refine j_tabEq (pc := 1) (tgt := 47) 3 hX dX10_count_1 z3 (by decide) (by decide) rfl (by decide) ?_
    refine j_aload_n (pc := 47) hX dX10_count_47 rfl rfl ?_
    refine k_getI (pc := 48) (x := (c 30 33)) hX fl_10_245 dX10_count_48 rfl rfl rfl ?_
    replace h := Option.some.inj h
    subst h
    exact j_iret (pc := 51) hX hE rfl rfl dX10_count_51 (Nat.le_refl 0) (Nat.le_refl 0) ⟨rfl, rfl, rfl⟩
  replace h := ite_f z3 h
  refine j_tabOut (pc := 1) (tgt := 52) hX dX10_count_1 (by have yz0 := lv_neT (a := 0) z0 (by decide); have yz1 := lv_neT (a := 1) z1 (by decide); have yz2 := lv_neT (a := 2) z2 (by decide); have yz3 := lv_neT (a := 3) z3 (by decide); omega) (by decide) ?_
  refine j_iconst (pc := 52) (v := (-1 : Int32)) hX dX10_count_52 (by decide) ?_
  replace h := Option.some.inj h
  subst h
  exact j_iret (pc := 53) hX hE rfl rfl dX10_count_53 (Nat.le_refl 0) (Nat.le_refl 0) ⟨rfl, rfl, rfl⟩

set_option maxHeartbeats 4000000 in
set_option maxRecDepth 100000 in
theorem t_m_clear {l : Launch} {D : va_G} {G : Nat → ClassId} {d : Nat} (hdp : 0 ≤ d) {c r : jS} {vE : Int32} {cE : jS} (h : m_clear c = some (vE, cE)) : jC l D G d M_m_clear [.ref 30] (jmix r c) (some (.int vE)) (jmix r cE) := by
  refine jM_of rfl (Nat.le_of_ble_eq_true rfl) ?_
  intro X hl hD hG _ _ hX hE _
  subst hl hD hG
  unfold m_clear at h
  show J X 0 0 jN (jE (jmix r c)) [(0, .ref 30)] [] 0
  refine j_aload_n (pc := 0) hX dX10_clear_0 rfl rfl ?_
  refine k_getI (pc := 1) (x := (c 30 5)) hX fl_10_119 dX10_clear_1 rfl rfl rfl ?_
  refine j_istore_n (pc := 4) hX dX10_clear_4 rfl (by decide) (by decide) ?_
  refine j_aload_n (pc := 5) hX dX10_clear_5 rfl rfl ?_
  refine j_iconst (pc := 6) (v := (0 : Int32)) hX dX10_clear_6 (by decide) ?_
  obtain ⟨c1, hc, h⟩ := lt_some h
  refine k_putI (pc := 7) (c' := jmix r c1) hX pfl_10_119 dX10_clear_7 rfl rfl (fun _ => ⟨rfl, rfl⟩) (jmix_me rfl hc) ?_
  refine j_iload_n (pc := 10) hX dX10_clear_10 rfl rfl ?_
  obtain ⟨h, h0⟩ := Prod.mk.inj (Option.some.inj h)
  subst h h0
  exact j_iret (pc := 11) hX hE rfl rfl dX10_clear_11 (Nat.le_refl 0) (Nat.le_refl 0) ⟨rfl, rfl, rfl⟩

