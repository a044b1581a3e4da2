set_option maxHeartbeats 4000000 in
set_option maxRecDepth 100000 in
theorem tj_m_areAlike_P377_86 {X : jX} {d : Nat} {r : jS} {vE : Int32} {cE : jS} (hX : jOk X RX10 cX10_areAlike 10 d) (hdp : 1 ≤ d) (hE : jEnd X (some .boolean) 0 0 (fun r0 n0 h0 => r0 = (some (.int vE)) ∧ n0 = jN ∧ h0 = jE (jmix r cE))) {k_86 : Nat} (ih_86 : ∀ (v3 : Int32) (c : jS), lpk (fun s : (Int32 × jS) => m_areAlike_S86 s.1 s.2) k_86 (v3, c) = some (vE, cE) → J X 0 0 jN (jE (jmix r c)) [(0, .ref 30), (3, .int v3)] [] 86) : ∀ (v3 : Int32) (v5 : Int32) (v6 : Int32) (v7 : Int32) (c : jS), lq (fun s : (Int32 × jS) => m_areAlike_S86 s.1 s.2) k_86 (vE, cE) (m_areAlike_P377_86 v3 v5 v6 v7 c) → J X 0 0 jN (jE (jmix r c)) [(0, .ref 30), (3, .int v3), (5, .int v5), (6, .int v6), (7, .int v7)] [] 377 := by
  intro v3 v5 v6 v7 c h
  conv at h => arg 4; unfold m_areAlike_P377_86
  refine j_aload_n (pc := 377) hX dX10_areAlike_377 rfl rfl ?_
  refine j_aload_n (pc := 378) hX dX10_areAlike_378 rfl rfl ?_
  refine j_iload (pc := 379) hX dX10_areAlike_379 rfl ?_
  refine j_iload (pc := 381) hX dX10_areAlike_381 rfl ?_
  obtain ⟨r7, h1, h⟩ := lq_ob h
  refine k_callVI (pc := 383) (st := [.ref 30]) hX ln_10_126 dX10_areAlike_383 (t_m_part (d := 0) (Nat.le_refl _) h1) rfl rfl rfl (by omega) (Nat.le_of_ble_eq_true rfl) ?_
  obtain ⟨_u, c8, h1, h⟩ := lq_bd h
  refine k_callVV (pc := 386) (st := []) hX ln_10_154 dX10_areAlike_386 (t_m_push (d := 0) (Nat.le_refl _) h1) rfl rfl rfl (by omega) (Nat.le_of_ble_eq_true rfl) ?_
  refine j_aload_n (pc := 389) hX dX10_areAlike_389 rfl rfl ?_
  refine k_getR (pc := 390) (q := 49) hX fl_10_72 dX10_areAlike_390 rfl rfl ?_
  refine j_aload_n (pc := 393) hX dX10_areAlike_393 rfl rfl ?_
  refine k_getI (pc := 394) (x := (c8 30 14)) hX fl_10_145 dX10_areAlike_394 rfl rfl rfl ?_
  refine j_iconst (pc := 397) (v := (1 : Int32)) hX dX10_areAlike_397 (by decide) ?_
  refine j_isub (pc := 398) hX dX10_areAlike_398 ?_
  refine j_aload_n (pc := 399) hX dX10_areAlike_399 rfl rfl ?_
  refine j_iload (pc := 400) hX dX10_areAlike_400 rfl ?_
  refine j_iload (pc := 402) hX dX10_areAlike_402 rfl ?_
  obtain ⟨r9, h1, h⟩ := lq_ob h
  refine k_callVI (pc := 404) (st := [.int ((c8 30 14) - (1 : Int32)), .ref 49]) hX ln_10_126 dX10_areAlike_404 (t_m_part (d := 0) (Nat.le_refl _) h1) rfl rfl rfl (by omega) (Nat.le_of_ble_eq_true rfl) ?_
  obtain ⟨hg, h⟩ := lq_gd h
  obtain ⟨c10, hc, h⟩ := lq_lt h
  refine k_iast (pc := 407) (c' := jmix r c10) hX dX10_areAlike_407 rfl hg (jmix_me rfl hc) ?_
  refine j_goto (pc := 408) (tgt := 86) hX dX10_areAlike_408 (by decide) ?_
  refine j_sub (lv' := [(0, .ref 30), (3, .int v3)]) ⟨rfl, rfl, trivial⟩ ?_
  exact ih_86 _ _ (lq_l h)
set_option maxHeartbeats 4000000 in
set_option maxRecDepth 100000 in
theorem tj_m_areAlike_P192_86 {X : jX} {d : Nat} {r : jS} {vE : Int32} {cE : jS} (hX : jOk X RX10 cX10_areAlike 10 d) (hdp : 1 ≤ d) (hE : jEnd X (some .boolean) 0 0 (fun r0 n0 h0 => r0 = (some (.int vE)) ∧ n0 = jN ∧ h0 = jE (jmix r cE))) {k_86 : Nat} (ih_86 : ∀ (v3 : Int32) (c : jS), lpk (fun s : (Int32 × jS) => m_areAlike_S86 s.1 s.2) k_86 (v3, c) = some (vE, cE) → J X 0 0 jN (jE (jmix r c)) [(0, .ref 30), (3, .int v3)] [] 86) : ∀ (v3 : Int32) (v4 : Int32) (v5 : Int32) (v6 : Int32) (v7 : Int32) (s0 : Int32) (c : jS), lq (fun s : (Int32 × jS) => m_areAlike_S86 s.1 s.2) k_86 (vE, cE) (m_areAlike_P192_86 v3 v4 v5 v6 v7 s0 c) → J X 0 0 jN (jE (jmix r c)) [(0, .ref 30), (3, .int v3), (4, .int v4), (5, .int v5), (6, .int v6), (7, .int v7)] [.int s0] 192 := by
  intro v3 v4 v5 v6 v7 s0 c h
  conv at h => arg 4; unfold m_areAlike_P192_86
  refine j_istore (pc := 192) hX dX10_areAlike_192 (by decide) (by decide) ?_
  refine j_aload_n (pc := 194) hX dX10_areAlike_194 rfl rfl ?_
  refine k_getR (pc := 195) (q := 35) hX fl_10_30 dX10_areAlike_195 rfl rfl ?_
  refine j_iload (pc := 198) hX dX10_areAlike_198 rfl ?_
  obtain ⟨hg, h⟩ := lq_gd h
  refine k_iald (pc := 200) (x := (c 35 (v6).toNatClampNeg)) hX dX10_areAlike_200 rfl hg rfl ?_
  obtain ⟨r6, h1, h⟩ := lq_ob h
  refine k_callSI (pc := 201) (st := []) hX ln_10_122 dX10_areAlike_201 (t_m_partsOf (d := 0) (Nat.le_refl _) h1) rfl rfl (by omega) (Nat.le_of_ble_eq_true rfl) ?_
  refine j_istore (pc := 204) hX dX10_areAlike_204 (by decide) (by decide) ?_
  refine j_iload (pc := 206) hX dX10_areAlike_206 rfl ?_
  refine j_iload (pc := 208) hX dX10_areAlike_208 rfl ?_
  refine j_icmp_ne (pc := 210) (tgt := 279) hX dX10_areAlike_210 (by decide) (fun z => ?_) (fun z => ?_)
  · replace h := lq_f z h
    refine j_iload_n (pc := 279) hX dX10_areAlike_279 rfl rfl ?_
    refine j_if_eq (pc := 280) (tgt := 408) hX dX10_areAlike_280 (by decide) (fun z => ?_) (fun z => ?_)
    · replace h := lq_t z h
      refine j_goto (pc := 408) (tgt := 86) hX dX10_areAlike_408 (by decide) ?_
      refine j_sub (lv' := [(0, .ref 30), (3, .int v3)]) ⟨rfl, rfl, trivial⟩ ?_
      exact ih_86 _ _ (lq_l h)
    · replace h := lq_f z h
      refine j_iload (pc := 283) hX dX10_areAlike_283 rfl ?_
      refine j_if_eq (pc := 285) (tgt := 377) hX dX10_areAlike_285 (by decide) (fun z => ?_) (fun z => ?_)
      · replace h := lq_t z h
        refine j_sub (lv' := [(0, .ref 30), (3, .int v3), (5, .int v5), (6, .int v6), (7, .int v7)]) ⟨rfl, rfl, rfl, rfl, rfl, trivial⟩ ?_
        exact tj_m_areAlike_P377_86 hX hdp hE ih_86 _ _ _ _ _ h
      · replace h := lq_f z h
        refine j_iload (pc := 288) hX dX10_areAlike_288 rfl ?_
        refine j_iload (pc := 290) hX dX10_areAlike_290 rfl ?_
        refine j_iconst (pc := 292) (v := (1 : Int32)) hX dX10_areAlike_292 (by decide) ?_
        refine j_isub (pc := 293) hX dX10_areAlike_293 ?_
        refine j_icmp_ne (pc := 294) (tgt := 377) hX dX10_areAlike_294 (by decide) (fun z => ?_) (fun z => ?_)
        · replace h := lq_f z h
          refine j_sub (lv' := [(0, .ref 30), (3, .int v3), (5, .int v5), (6, .int v6), (7, .int v7)]) ⟨rfl, rfl, rfl, rfl, rfl, trivial⟩ ?_
          exact tj_m_areAlike_P377_86 hX hdp hE ih_86 _ _ _ _ _ h
        · replace h := lq_t z h
          refine j_aload_n (pc := 297) hX dX10_areAlike_297 rfl rfl ?_
          refine k_getR (pc := 298) (q := 45) hX fl_10_60 dX10_areAlike_298 rfl rfl ?_
          refine j_iload (pc := 301) hX dX10_areAlike_301 rfl ?_
          refine j_aload_n (pc := 303) hX dX10_areAlike_303 rfl rfl ?_
          refine k_getR (pc := 304) (q := 51) hX fl_10_81 dX10_areAlike_304 rfl rfl ?_
          refine j_aload_n (pc := 307) hX dX10_areAlike_307 rfl rfl ?_
          refine k_getR (pc := 308) (q := 37) hX fl_10_36 dX10_areAlike_308 rfl rfl ?_
          refine j_iload (pc := 311) hX dX10_areAlike_311 rfl ?_
          obtain ⟨hg, h⟩ := lq_gd h
          refine k_iald (pc := 313) (x := (c 37 (v6).toNatClampNeg)) hX dX10_areAlike_313 rfl hg rfl ?_
          obtain ⟨hg, h⟩ := lq_gd h
          refine k_iald (pc := 314) (x := (c 51 ((c 37 (v6).toNatClampNeg)).toNatClampNeg)) hX dX10_areAlike_314 rfl hg rfl ?_
          obtain ⟨hg, h⟩ := lq_gd h
          obtain ⟨c11, hc, h⟩ := lq_lt h
          refine k_iast (pc := 315) (c' := jmix r c11) hX dX10_areAlike_315 rfl hg (jmix_me rfl hc) ?_
          refine j_aload_n (pc := 316) hX dX10_areAlike_316 rfl rfl ?_
          refine k_getR (pc := 317) (q := 46) hX fl_10_63 dX10_areAlike_317 rfl rfl ?_
          refine j_iload (pc := 320) hX dX10_areAlike_320 rfl ?_
          refine j_aload_n (pc := 322) hX dX10_areAlike_322 rfl rfl ?_
          refine k_getR (pc := 323) (q := 52) hX fl_10_84 dX10_areAlike_323 rfl rfl ?_
          refine j_aload_n (pc := 326) hX dX10_areAlike_326 rfl rfl ?_
          refine k_getR (pc := 327) (q := 37) hX fl_10_36 dX10_areAlike_327 rfl rfl ?_
          refine j_iload (pc := 330) hX dX10_areAlike_330 rfl ?_
          obtain ⟨hg, h⟩ := lq_gd h
          refine k_iald (pc := 332) (x := (c11 37 (v7).toNatClampNeg)) hX dX10_areAlike_332 rfl hg rfl ?_
          obtain ⟨hg, h⟩ := lq_gd h
          refine k_iald (pc := 333) (x := (c11 52 ((c11 37 (v7).toNatClampNeg)).toNatClampNeg)) hX dX10_areAlike_333 rfl hg rfl ?_
          obtain ⟨hg, h⟩ := lq_gd h
          obtain ⟨c12, hc, h⟩ := lq_lt h
          refine k_iast (pc := 334) (c' := jmix r c12) hX dX10_areAlike_334 rfl hg (jmix_me rfl hc) ?_
          refine j_aload_n (pc := 335) hX dX10_areAlike_335 rfl rfl ?_
          refine k_getR (pc := 336) (q := 51) hX fl_10_81 dX10_areAlike_336 rfl rfl ?_
          refine j_aload_n (pc := 339) hX dX10_areAlike_339 rfl rfl ?_
          refine k_getR (pc := 340) (q := 37) hX fl_10_36 dX10_areAlike_340 rfl rfl ?_
          refine j_iload (pc := 343) hX dX10_areAlike_343 rfl ?_
          obtain ⟨hg, h⟩ := lq_gd h
          refine k_iald (pc := 345) (x := (c12 37 (v6).toNatClampNeg)) hX dX10_areAlike_345 rfl hg rfl ?_
          refine j_aload_n (pc := 346) hX dX10_areAlike_346 rfl rfl ?_
          refine k_getI (pc := 347) (x := (c12 30 28)) hX fl_10_175 dX10_areAlike_347 rfl rfl rfl ?_
          obtain ⟨hg, h⟩ := lq_gd h
          obtain ⟨c13, hc, h⟩ := lq_lt h
          refine k_iast (pc := 350) (c' := jmix r c13) hX dX10_areAlike_350 rfl hg (jmix_me rfl hc) ?_
          refine j_aload_n (pc := 351) hX dX10_areAlike_351 rfl rfl ?_
          refine k_getR (pc := 352) (q := 52) hX fl_10_84 dX10_areAlike_352 rfl rfl ?_
          refine j_aload_n (pc := 355) hX dX10_areAlike_355 rfl rfl ?_
          refine k_getR (pc := 356) (q := 37) hX fl_10_36 dX10_areAlike_356 rfl rfl ?_
          refine j_iload (pc := 359) hX dX10_areAlike_359 rfl ?_
          obtain ⟨hg, h⟩ := lq_gd h
          refine k_iald (pc := 361) (x := (c13 37 (v7).toNatClampNeg)) hX dX10_areAlike_361 rfl hg rfl ?_
          refine j_aload_n (pc := 362) hX dX10_areAlike_362 rfl rfl ?_
          refine k_getI (pc := 363) (x := (c13 30 28)) hX fl_10_175 dX10_areAlike_363 rfl rfl rfl ?_
          obtain ⟨hg, h⟩ := lq_gd h
          obtain ⟨c14, hc, h⟩ := lq_lt h
          refine k_iast (pc := 366) (c' := jmix r c14) hX dX10_areAlike_366 rfl hg (jmix_me rfl hc) ?_
          refine j_aload_n (pc := 367) hX dX10_areAlike_367 rfl rfl ?_
          refine j_dup (pc := 368) hX dX10_areAlike_368 rfl ?_
          refine k_getI (pc := 369) (x := (c14 30 28)) hX fl_10_175 dX10_areAlike_369 rfl rfl rfl ?_
          refine j_iconst (pc := 372) (v := (1 : Int32)) hX dX10_areAlike_372 (by decide) ?_
          refine j_iadd (pc := 373) hX dX10_areAlike_373 ?_
          obtain ⟨c15, hc, h⟩ := lq_lt h
          refine k_putI (pc := 374) (c' := jmix r c15) hX pfl_10_175 dX10_areAlike_374 rfl rfl (fun _ => ⟨rfl, rfl⟩) (jmix_me rfl hc) ?_
          refine j_sub (lv' := [(0, .ref 30), (3, .int v3), (5, .int v5), (6, .int v6), (7, .int v7)]) ⟨rfl, rfl, rfl, rfl, rfl, trivial⟩ ?_
          exact tj_m_areAlike_P377_86 hX hdp hE ih_86 _ _ _ _ _ h
  · replace h := lq_t z h
    refine j_aload_n (pc := 213) hX dX10_areAlike_213 rfl rfl ?_
    refine j_dup (pc := 214) hX dX10_areAlike_214 rfl ?_
    refine k_getI (pc := 215) (x := (c 30 14)) hX fl_10_145 dX10_areAlike_215 rfl rfl rfl ?_
    refine j_iconst (pc := 218) (v := (1 : Int32)) hX dX10_areAlike_218 (by decide) ?_
    refine j_isub (pc := 219) hX dX10_areAlike_219 ?_
    obtain ⟨c16, hc, h⟩ := lq_lt h
    refine k_putI (pc := 220) (c' := jmix r c16) hX pfl_10_145 dX10_areAlike_220 rfl rfl (fun _ => ⟨rfl, rfl⟩) (jmix_me rfl hc) ?_
    refine j_iload (pc := 223) hX dX10_areAlike_223 rfl ?_
    refine j_if_eq (pc := 225) (tgt := 408) hX dX10_areAlike_225 (by decide) (fun z => ?_) (fun z => ?_)
    · replace h := lq_t z h
      refine j_goto (pc := 408) (tgt := 86) hX dX10_areAlike_408 (by decide) ?_
      refine j_sub (lv' := [(0, .ref 30), (3, .int v3)]) ⟨rfl, rfl, trivial⟩ ?_
      exact ih_86 _ _ (lq_l h)
    · replace h := lq_f z h
      refine j_aload_n (pc := 228) hX dX10_areAlike_228 rfl rfl ?_
      refine k_getR (pc := 229) (q := 51) hX fl_10_81 dX10_areAlike_229 rfl rfl ?_
      refine j_aload_n (pc := 232) hX dX10_areAlike_232 rfl rfl ?_
      refine k_getR (pc := 233) (q := 37) hX fl_10_36 dX10_areAlike_233 rfl rfl ?_
      refine j_iload (pc := 236) hX dX10_areAlike_236 rfl ?_
      obtain ⟨hg, h⟩ := lq_gd h
      refine k_iald (pc := 238) (x := (c16 37 (v6).toNatClampNeg)) hX dX10_areAlike_238 rfl hg rfl ?_
      refine j_aload_n (pc := 239) hX dX10_areAlike_239 rfl rfl ?_
      refine k_getR (pc := 240) (q := 45) hX fl_10_60 dX10_areAlike_240 rfl rfl ?_
      refine j_iload (pc := 243) hX dX10_areAlike_243 rfl ?_
      obtain ⟨hg, h⟩ := lq_gd h
      refine k_iald (pc := 245) (x := (c16 45 (v4).toNatClampNeg)) hX dX10_areAlike_245 rfl hg rfl ?_
      obtain ⟨hg, h⟩ := lq_gd h
      obtain ⟨c17, hc, h⟩ := lq_lt h
      refine k_iast (pc := 246) (c' := jmix r c17) hX dX10_areAlike_246 rfl hg (jmix_me rfl hc) ?_
      refine j_aload_n (pc := 247) hX dX10_areAlike_247 rfl rfl ?_
      refine k_getR (pc := 248) (q := 52) hX fl_10_84 dX10_areAlike_248 rfl rfl ?_
      refine j_aload_n (pc := 251) hX dX10_areAlike_251 rfl rfl ?_
      refine k_getR (pc := 252) (q := 37) hX fl_10_36 dX10_areAlike_252 rfl rfl ?_
      refine j_iload (pc := 255) hX dX10_areAlike_255 rfl ?_
      obtain ⟨hg, h⟩ := lq_gd h
      refine k_iald (pc := 257) (x := (c17 37 (v7).toNatClampNeg)) hX dX10_areAlike_257 rfl hg rfl ?_
      refine j_aload_n (pc := 258) hX dX10_areAlike_258 rfl rfl ?_
      refine k_getR (pc := 259) (q := 46) hX fl_10_63 dX10_areAlike_259 rfl rfl ?_
      refine j_iload (pc := 262) hX dX10_areAlike_262 rfl ?_
      obtain ⟨hg, h⟩ := lq_gd h
      refine k_iald (pc := 264) (x := (c17 46 (v4).toNatClampNeg)) hX dX10_areAlike_264 rfl hg rfl ?_
      obtain ⟨hg, h⟩ := lq_gd h
      obtain ⟨c18, hc, h⟩ := lq_lt h
      refine k_iast (pc := 265) (c' := jmix r c18) hX dX10_areAlike_265 rfl hg (jmix_me rfl hc) ?_
      refine j_aload_n (pc := 266) hX dX10_areAlike_266 rfl rfl ?_
      refine j_dup (pc := 267) hX dX10_areAlike_267 rfl ?_
      refine k_getI (pc := 268) (x := (c18 30 28)) hX fl_10_175 dX10_areAlike_268 rfl rfl rfl ?_
      refine j_iconst (pc := 271) (v := (1 : Int32)) hX dX10_areAlike_271 (by decide) ?_
      refine j_isub (pc := 272) hX dX10_areAlike_272 ?_
      obtain ⟨c19, hc, h⟩ := lq_lt h
      refine k_putI (pc := 273) (c' := jmix r c19) hX pfl_10_175 dX10_areAlike_273 rfl rfl (fun _ => ⟨rfl, rfl⟩) (jmix_me rfl hc) ?_
      refine j_goto (pc := 276) (tgt := 408) hX dX10_areAlike_276 (by decide) ?_
      refine j_goto (pc := 408) (tgt := 86) hX dX10_areAlike_408 (by decide) ?_
      refine j_sub (lv' := [(0, .ref 30), (3, .int v3)]) ⟨rfl, rfl, trivial⟩ ?_
      exact ih_86 _ _ (lq_l h)
set_option maxHeartbeats 4000000 in
set_option maxRecDepth 100000 in
theorem tj_m_areAlike_P187_86 {X : jX} {d : Nat} {r : jS} {vE : Int32} {cE : jS} (hX : jOk X RX10 cX10_areAlike 10 d) (hdp : 1 ≤ d) (hE : jEnd X (some .boolean) 0 0 (fun r0 n0 h0 => r0 = (some (.int vE)) ∧ n0 = jN ∧ h0 = jE (jmix r cE))) {k_86 : Nat} (ih_86 : ∀ (v3 : Int32) (c : jS), lpk (fun s : (Int32 × jS) => m_areAlike_S86 s.1 s.2) k_86 (v3, c) = some (vE, cE) → J X 0 0 jN (jE (jmix r c)) [(0, .ref 30), (3, .int v3)] [] 86) : ∀ (v3 : Int32) (v4 : Int32) (v5 : Int32) (v6 : Int32) (v7 : Int32) (c : jS), lq (fun s : (Int32 × jS) => m_areAlike_S86 s.1 s.2) k_86 (vE, cE) (m_areAlike_P187_86 v3 v4 v5 v6 v7 c) → J X 0 0 jN (jE (jmix r c)) [(0, .ref 30), (3, .int v3), (4, .int v4), (5, .int v5), (6, .int v6), (7, .int v7)] [] 187 := by
  intro v3 v4 v5 v6 v7 c h
  conv at h => arg 4; unfold m_areAlike_P187_86
  refine j_iconst (pc := 187) (v := (1 : Int32)) hX dX10_areAlike_187 (by decide) ?_
  refine j_goto (pc := 188) (tgt := 192) hX dX10_areAlike_188 (by decide) ?_
  refine j_sub (lv' := [(0, .ref 30), (3, .int v3), (4, .int v4), (5, .int v5), (6, .int v6), (7, .int v7)]) ⟨rfl, rfl, rfl, rfl, rfl, rfl, trivial⟩ ?_
  exact tj_m_areAlike_P192_86 hX hdp hE ih_86 _ _ _ _ _ _ _ h
set_option maxHeartbeats 4000000 in
set_option maxRecDepth 100000 in
theorem tj_m_areAlike_P164_86 {X : jX} {d : Nat} {r : jS} {vE : Int32} {cE : jS} (hX : jOk X RX10 cX10_areAlike 10 d) (hdp : 1 ≤ d) (hE : jEnd X (some .boolean) 0 0 (fun r0 n0 h0 => r0 = (some (.int vE)) ∧ n0 = jN ∧ h0 = jE (jmix r cE))) {k_86 : Nat} (ih_86 : ∀ (v3 : Int32) (c : jS), lpk (fun s : (Int32 × jS) => m_areAlike_S86 s.1 s.2) k_86 (v3, c) = some (vE, cE) → J X 0 0 jN (jE (jmix r c)) [(0, .ref 30), (3, .int v3)] [] 86) : ∀ (v4 : Int32) (v5 : Int32) (v6 : Int32) (v7 : Int32) (s0 : Int32) (c : jS), lq (fun s : (Int32 × jS) => m_areAlike_S86 s.1 s.2) k_86 (vE, cE) (m_areAlike_P164_86 v4 v5 v6 v7 s0 c) → J X 0 0 jN (jE (jmix r c)) [(0, .ref 30), (4, .int v4), (5, .int v5), (6, .int v6), (7, .int v7)] [.int s0] 164 := by
  intro v4 v5 v6 v7 s0 c h
  conv at h => arg 4; unfold m_areAlike_P164_86
  refine j_istore_n (pc := 164) hX dX10_areAlike_164 rfl (by decide) (by decide) ?_
  refine j_aload_n (pc := 165) hX dX10_areAlike_165 rfl rfl ?_
  refine k_getR (pc := 166) (q := 35) hX fl_10_30 dX10_areAlike_166 rfl rfl ?_
  refine j_iload (pc := 169) hX dX10_areAlike_169 rfl ?_
  obtain ⟨hg, h⟩ := lq_gd h
  refine k_iald (pc := 171) (x := (c 35 (v6).toNatClampNeg)) hX dX10_areAlike_171 rfl hg rfl ?_
  refine j_iconst (pc := 172) (v := (2 : Int32)) hX dX10_areAlike_172 (by decide) ?_
  refine j_icmp_eq (pc := 173) (tgt := 187) hX dX10_areAlike_173 (by decide) (fun z => ?_) (fun z => ?_)
  · replace h := lq_t z h
    refine j_sub (lv' := [(0, .ref 30), (3, .int s0), (4, .int v4), (5, .int v5), (6, .int v6), (7, .int v7)]) ⟨rfl, rfl, rfl, rfl, rfl, rfl, trivial⟩ ?_
    exact tj_m_areAlike_P187_86 hX hdp hE ih_86 _ _ _ _ _ _ h
  · replace h := lq_f z h
    refine j_aload_n (pc := 176) hX dX10_areAlike_176 rfl rfl ?_
    refine k_getR (pc := 177) (q := 35) hX fl_10_30 dX10_areAlike_177 rfl rfl ?_
    refine j_iload (pc := 180) hX dX10_areAlike_180 rfl ?_
    obtain ⟨hg, h⟩ := lq_gd h
    refine k_iald (pc := 182) (x := (c 35 (v6).toNatClampNeg)) hX dX10_areAlike_182 rfl hg rfl ?_
    refine j_iconst (pc := 183) (v := (4 : Int32)) hX dX10_areAlike_183 (by decide) ?_
    refine j_icmp_ne (pc := 184) (tgt := 191) hX dX10_areAlike_184 (by decide) (fun z => ?_) (fun z => ?_)
    · replace h := lq_f z h
      refine j_iconst (pc := 191) (v := (0 : Int32)) hX dX10_areAlike_191 (by decide) ?_
      refine j_sub (lv' := [(0, .ref 30), (3, .int s0), (4, .int v4), (5, .int v5), (6, .int v6), (7, .int v7)]) ⟨rfl, rfl, rfl, rfl, rfl, rfl, trivial⟩ ?_
      exact tj_m_areAlike_P192_86 hX hdp hE ih_86 _ _ _ _ _ _ _ h
    · replace h := lq_t z h
      refine j_sub (lv' := [(0, .ref 30), (3, .int s0), (4, .int v4), (5, .int v5), (6, .int v6), (7, .int v7)]) ⟨rfl, rfl, rfl, rfl, rfl, rfl, trivial⟩ ?_
      exact tj_m_areAlike_P187_86 hX hdp hE ih_86 _ _ _ _ _ _ h
set_option maxHeartbeats 4000000 in
set_option maxRecDepth 100000 in
theorem tj_m_areAlike_P159_86 {X : jX} {d : Nat} {r : jS} {vE : Int32} {cE : jS} (hX : jOk X RX10 cX10_areAlike 10 d) (hdp : 1 ≤ d) (hE : jEnd X (some .boolean) 0 0 (fun r0 n0 h0 => r0 = (some (.int vE)) ∧ n0 = jN ∧ h0 = jE (jmix r cE))) {k_86 : Nat} (ih_86 : ∀ (v3 : Int32) (c : jS), lpk (fun s : (Int32 × jS) => m_areAlike_S86 s.1 s.2) k_86 (v3, c) = some (vE, cE) → J X 0 0 jN (jE (jmix r c)) [(0, .ref 30), (3, .int v3)] [] 86) : ∀ (v4 : Int32) (v5 : Int32) (v6 : Int32) (v7 : Int32) (c : jS), lq (fun s : (Int32 × jS) => m_areAlike_S86 s.1 s.2) k_86 (vE, cE) (m_areAlike_P159_86 v4 v5 v6 v7 c) → J X 0 0 jN (jE (jmix r c)) [(0, .ref 30), (4, .int v4), (5, .int v5), (6, .int v6), (7, .int v7)] [] 159 := by
  intro v4 v5 v6 v7 c h
  conv at h => arg 4; unfold m_areAlike_P159_86
  refine j_iconst (pc := 159) (v := (1 : Int32)) hX dX10_areAlike_159 (by decide) ?_
  refine j_goto (pc := 160) (tgt := 164) hX dX10_areAlike_160 (by decide) ?_
  refine j_sub (lv' := [(0, .ref 30), (4, .int v4), (5, .int v5), (6, .int v6), (7, .int v7)]) ⟨rfl, rfl, rfl, rfl, rfl, trivial⟩ ?_
  exact tj_m_areAlike_P164_86 hX hdp hE ih_86 _ _ _ _ _ _ h
set_option maxHeartbeats 4000000 in
set_option maxRecDepth 100000 in
theorem tl_m_areAlike_L86 {X : jX} {d : Nat} {r : jS} {vE : Int32} {cE : jS} (hX : jOk X RX10 cX10_areAlike 10 d) (hdp : 1 ≤ d) (hE : jEnd X (some .boolean) 0 0 (fun r0 n0 h0 => r0 = (some (.int vE)) ∧ n0 = jN ∧ h0 = jE (jmix r cE))) : ∀ (v3 : Int32) (c : jS), m_areAlike_L86 v3 c = some (vE, cE) → J X 0 0 jN (jE (jmix r c)) [(0, .ref 30), (3, .int v3)] [] 86 := by
  intro v3 c h
  unfold m_areAlike_L86 at h
  replace h := lp_some h
  obtain ⟨k_86, h⟩ := h
  induction k_86 generalizing v3 c with
  | zero => cases h
  | succ k_86 ih_86 =>
    replace h : lq (fun s : (Int32 × jS) => m_areAlike_S86 s.1 s.2) k_86 (vE, cE) (m_areAlike_S86 v3 c) := lpk_succ (s := (v3, c)) h
    conv at h => arg 4; unfold m_areAlike_S86
    refine j_aload_n (pc := 86) hX dX10_areAlike_86 rfl rfl ?_
    refine k_getI (pc := 87) (x := (c 30 14)) hX fl_10_145 dX10_areAlike_87 rfl rfl rfl ?_
    refine j_if_le (pc := 90) (tgt := 411) hX dX10_areAlike_90 (by decide) (fun z => ?_) (fun z => ?_)
    · replace h := lq_t z h
      refine j_iload_n (pc := 411) hX dX10_areAlike_411 rfl rfl ?_
      obtain ⟨hb, h⟩ := lq_gd h
      replace h := lq_r h
      obtain ⟨h, h0⟩ := Prod.mk.inj (Option.some.inj h)
      subst h h0
      exact j_iret (pc := 412) hX hE rfl (bz_nar hb) dX10_areAlike_412 (Nat.le_refl 0) (Nat.le_refl 0) ⟨rfl, rfl, rfl⟩
    · replace h := lq_f z h
      refine j_iload_n (pc := 93) hX dX10_areAlike_93 rfl rfl ?_
      refine j_if_eq (pc := 94) (tgt := 411) hX dX10_areAlike_94 (by decide) (fun z => ?_) (fun z => ?_)
      · replace h := lq_t z h
        refine j_iload_n (pc := 411) hX dX10_areAlike_411 rfl rfl ?_
        obtain ⟨hb, h⟩ := lq_gd h
        replace h := lq_r h
        obtain ⟨h, h0⟩ := Prod.mk.inj (Option.some.inj h)
        subst h h0
        exact j_iret (pc := 412) hX hE rfl (bz_nar hb) dX10_areAlike_412 (Nat.le_refl 0) (Nat.le_refl 0) ⟨rfl, rfl, rfl⟩
      · replace h := lq_f z h
        refine j_aload_n (pc := 97) hX dX10_areAlike_97 rfl rfl ?_
        refine k_getI (pc := 98) (x := (c 30 14)) hX fl_10_145 dX10_areAlike_98 rfl rfl rfl ?_
        refine j_iconst (pc := 101) (v := (1 : Int32)) hX dX10_areAlike_101 (by decide) ?_
        refine j_isub (pc := 102) hX dX10_areAlike_102 ?_
        refine j_istore (pc := 103) hX dX10_areAlike_103 (by decide) (by decide) ?_
        refine j_aload_n (pc := 105) hX dX10_areAlike_105 rfl rfl ?_
        refine k_getR (pc := 106) (q := 44) hX fl_10_57 dX10_areAlike_106 rfl rfl ?_
        refine j_iload (pc := 109) hX dX10_areAlike_109 rfl ?_
        obtain ⟨hg, h⟩ := lq_gd h
        refine k_iald (pc := 111) (x := (c 44 (((c 30 14) - (1 : Int32))).toNatClampNeg)) hX dX10_areAlike_111 rfl hg rfl ?_
        refine j_istore (pc := 112) hX dX10_areAlike_112 (by decide) (by decide) ?_
        refine j_aload_n (pc := 114) hX dX10_areAlike_114 rfl rfl ?_
        refine k_getR (pc := 115) (q := 43) hX fl_10_54 dX10_areAlike_115 rfl rfl ?_
        refine j_iload (pc := 118) hX dX10_areAlike_118 rfl ?_
        obtain ⟨hg, h⟩ := lq_gd h
        refine k_iald (pc := 120) (x := (c 43 (((c 30 14) - (1 : Int32))).toNatClampNeg)) hX dX10_areAlike_120 rfl hg rfl ?_
        refine j_istore (pc := 121) hX dX10_areAlike_121 (by decide) (by decide) ?_
        refine j_aload_n (pc := 123) hX dX10_areAlike_123 rfl rfl ?_
        refine k_getR (pc := 124) (q := 49) hX fl_10_72 dX10_areAlike_124 rfl rfl ?_
        refine j_iload (pc := 127) hX dX10_areAlike_127 rfl ?_
        obtain ⟨hg, h⟩ := lq_gd h
        refine k_iald (pc := 129) (x := (c 49 (((c 30 14) - (1 : Int32))).toNatClampNeg)) hX dX10_areAlike_129 rfl hg rfl ?_
        refine j_istore (pc := 130) hX dX10_areAlike_130 (by decide) (by decide) ?_
        refine j_aload_n (pc := 132) hX dX10_areAlike_132 rfl rfl ?_
        refine k_getR (pc := 133) (q := 44) hX fl_10_57 dX10_areAlike_133 rfl rfl ?_
        refine j_iload (pc := 136) hX dX10_areAlike_136 rfl ?_
        refine j_dup2 (pc := 138) hX dX10_areAlike_138 rfl rfl ?_
        obtain ⟨hg, h⟩ := lq_gd h
        refine k_iald (pc := 139) (x := (c 44 (((c 30 14) - (1 : Int32))).toNatClampNeg)) hX dX10_areAlike_139 rfl hg rfl ?_
        refine j_iconst (pc := 140) (v := (1 : Int32)) hX dX10_areAlike_140 (by decide) ?_
        refine j_iadd (pc := 141) hX dX10_areAlike_141 ?_
        obtain ⟨hg, h⟩ := lq_gd h
        obtain ⟨c5, hc, h⟩ := lq_lt h
        refine k_iast (pc := 142) (c' := jmix r c5) hX dX10_areAlike_142 rfl hg (jmix_me rfl hc) ?_
        refine j_iload (pc := 143) hX dX10_areAlike_143 rfl ?_
        refine j_if_gt (pc := 145) (tgt := 159) hX dX10_areAlike_145 (by decide) (fun z => ?_) (fun z => ?_)
        · replace h := lq_t z h
          refine j_sub (lv' := [(0, .ref 30), (4, .int ((c 30 14) - (1 : Int32))), (5, .int (c 44 (((c 30 14) - (1 : Int32))).toNatClampNeg)), (6, .int (c 43 (((c 30 14) - (1 : Int32))).toNatClampNeg)), (7, .int (c 49 (((c 30 14) - (1 : Int32))).toNatClampNeg))]) ⟨rfl, rfl, rfl, rfl, rfl, trivial⟩ ?_
          exact tj_m_areAlike_P159_86 hX hdp hE ih_86 _ _ _ _ _ h
        · replace h := lq_f z h
          refine j_aload_n (pc := 148) hX dX10_areAlike_148 rfl rfl ?_
          refine j_iload (pc := 149) hX dX10_areAlike_149 rfl ?_
          refine j_iload (pc := 151) hX dX10_areAlike_151 rfl ?_
          obtain ⟨r20, h1, h⟩ := lq_ob h
          refine k_callVI (pc := 153) (st := []) hX ln_10_178 dX10_areAlike_153 (t_m_isLikeHere (d := 0) (Nat.le_refl _) h1) rfl rfl rfl (by omega) (Nat.le_of_ble_eq_true rfl) ?_
          refine j_if_eq (pc := 156) (tgt := 163) hX dX10_areAlike_156 (by decide) (fun z => ?_) (fun z => ?_)
          · replace h := lq_t z h
            refine j_iconst (pc := 163) (v := (0 : Int32)) hX dX10_areAlike_163 (by decide) ?_
            refine j_sub (lv' := [(0, .ref 30), (4, .int ((c 30 14) - (1 : Int32))), (5, .int (c 44 (((c 30 14) - (1 : Int32))).toNatClampNeg)), (6, .int (c 43 (((c 30 14) - (1 : Int32))).toNatClampNeg)), (7, .int (c 49 (((c 30 14) - (1 : Int32))).toNatClampNeg))]) ⟨rfl, rfl, rfl, rfl, rfl, trivial⟩ ?_
            exact tj_m_areAlike_P164_86 hX hdp hE ih_86 _ _ _ _ _ _ h
          · replace h := lq_f z h
            refine j_sub (lv' := [(0, .ref 30), (4, .int ((c 30 14) - (1 : Int32))), (5, .int (c 44 (((c 30 14) - (1 : Int32))).toNatClampNeg)), (6, .int (c 43 (((c 30 14) - (1 : Int32))).toNatClampNeg)), (7, .int (c 49 (((c 30 14) - (1 : Int32))).toNatClampNeg))]) ⟨rfl, rfl, rfl, rfl, rfl, trivial⟩ ?_
            exact tj_m_areAlike_P159_86 hX hdp hE ih_86 _ _ _ _ _ h
set_option maxHeartbeats 4000000 in
set_option maxRecDepth 100000 in
theorem tl_m_areAlike_L34 {X : jX} {d : Nat} {r : jS} {vE : Int32} {cE : jS} (hX : jOk X RX10 cX10_areAlike 10 d) (hdp : 1 ≤ d) (hE : jEnd X (some .boolean) 0 0 (fun r0 n0 h0 => r0 = (some (.int vE)) ∧ n0 = jN ∧ h0 = jE (jmix r cE))) : ∀ (v1 : Int32) (v2 : Int32) (v3 : Int32) (c : jS), m_areAlike_L34 v1 v2 v3 c = some (vE, cE) → J X 0 0 jN (jE (jmix r c)) [(0, .ref 30), (1, .int v1), (2, .int v2), (3, .int v3)] [] 34 := by
  intro v1 v2 v3 c h
  unfold m_areAlike_L34 at h
  replace h := lp_some h
  obtain ⟨k_34, h⟩ := h
  induction k_34 generalizing v1 v2 v3 c with
  | zero => cases h
  | succ k_34 ih_34 =>
    replace h : lq (fun s : (Int32 × Int32 × Int32 × jS) => m_areAlike_S34 s.1 s.2.1 s.2.2.1 s.2.2.2) k_34 (vE, cE) (m_areAlike_S34 v1 v2 v3 c) := lpk_succ (s := (v1, v2, v3, c)) h
    conv at h => arg 4; unfold m_areAlike_S34
    refine j_iload_n (pc := 34) hX dX10_areAlike_34 rfl rfl ?_
    refine j_bipush (pc := 35) (v := (26 : Int32)) hX dX10_areAlike_35 (by decide) ?_
    refine j_icmp_ge (pc := 37) (tgt := 62) hX dX10_areAlike_37 (by decide) (fun z => ?_) (fun z => ?_)
    · replace h := lq_t z h
      refine j_aload_n (pc := 62) hX dX10_areAlike_62 rfl rfl ?_
      refine j_iconst (pc := 63) (v := (0 : Int32)) hX dX10_areAlike_63 (by decide) ?_
      obtain ⟨c1, hc, h⟩ := lq_lt h
      refine k_putI (pc := 64) (c' := jmix r c1) hX pfl_10_175 dX10_areAlike_64 rfl rfl (fun _ => ⟨rfl, rfl⟩) (jmix_me rfl hc) ?_
      refine j_aload_n (pc := 67) hX dX10_areAlike_67 rfl rfl ?_
      refine j_iconst (pc := 68) (v := (0 : Int32)) hX dX10_areAlike_68 (by decide) ?_
      obtain ⟨c2, hc, h⟩ := lq_lt h
      refine k_putI (pc := 69) (c' := jmix r c2) hX pfl_10_145 dX10_areAlike_69 rfl rfl (fun _ => ⟨rfl, rfl⟩) (jmix_me rfl hc) ?_
      refine j_aload_n (pc := 72) hX dX10_areAlike_72 rfl rfl ?_
      refine j_iload_n (pc := 73) hX dX10_areAlike_73 rfl rfl ?_
      obtain ⟨_u, c3, h1, h⟩ := lq_bd h
      refine k_callVV (pc := 74) (st := []) hX ln_10_154 dX10_areAlike_74 (t_m_push (d := 0) (Nat.le_refl _) h1) rfl rfl rfl (by omega) (Nat.le_of_ble_eq_true rfl) ?_
      refine j_aload_n (pc := 77) hX dX10_areAlike_77 rfl rfl ?_
      refine k_getR (pc := 78) (q := 49) hX fl_10_72 dX10_areAlike_78 rfl rfl ?_
      refine j_iconst (pc := 81) (v := (0 : Int32)) hX dX10_areAlike_81 (by decide) ?_
      refine j_iload_n (pc := 82) hX dX10_areAlike_82 rfl rfl ?_
      obtain ⟨hg, h⟩ := lq_gd h
      obtain ⟨c4, hc, h⟩ := lq_lt h
      refine k_iast (pc := 83) (c' := jmix r c4) hX dX10_areAlike_83 rfl hg (jmix_me rfl hc) ?_
      refine j_iconst (pc := 84) (v := (1 : Int32)) hX dX10_areAlike_84 (by decide) ?_
      refine j_istore_n (pc := 85) hX dX10_areAlike_85 rfl (by decide) (by decide) ?_
      refine j_sub (lv' := [(0, .ref 30), (3, .int (1 : Int32))]) ⟨rfl, rfl, trivial⟩ ?_
      exact tl_m_areAlike_L86 hX hdp hE _ _ (lq_om h)
    · replace h := lq_f z h
      refine j_aload_n (pc := 40) hX dX10_areAlike_40 rfl rfl ?_
      refine k_getR (pc := 41) (q := 51) hX fl_10_81 dX10_areAlike_41 rfl rfl ?_
      refine j_iload_n (pc := 44) hX dX10_areAlike_44 rfl rfl ?_
      refine j_bipush (pc := 45) (v := (-2 : Int32)) hX dX10_areAlike_45 (by decide) ?_
      obtain ⟨hg, h⟩ := lq_gd h
      obtain ⟨c21, hc, h⟩ := lq_lt h
      refine k_iast (pc := 47) (c' := jmix r c21) hX dX10_areAlike_47 rfl hg (jmix_me rfl hc) ?_
      refine j_aload_n (pc := 48) hX dX10_areAlike_48 rfl rfl ?_
      refine k_getR (pc := 49) (q := 52) hX fl_10_84 dX10_areAlike_49 rfl rfl ?_
      refine j_iload_n (pc := 52) hX dX10_areAlike_52 rfl rfl ?_
      refine j_bipush (pc := 53) (v := (-2 : Int32)) hX dX10_areAlike_53 (by decide) ?_
      obtain ⟨hg, h⟩ := lq_gd h
      obtain ⟨c22, hc, h⟩ := lq_lt h
      refine k_iast (pc := 55) (c' := jmix r c22) hX dX10_areAlike_55 rfl hg (jmix_me rfl hc) ?_
      refine j_iinc (pc := 56) hX dX10_areAlike_56 rfl (v := (v3 + (1 : Int32))) rfl (by decide) (by decide) ?_
      refine j_goto (pc := 59) (tgt := 34) hX dX10_areAlike_59 (by decide) ?_
      refine j_sub (lv' := [(0, .ref 30), (1, .int v1), (2, .int v2), (3, .int (v3 + (1 : Int32)))]) ⟨rfl, rfl, rfl, rfl, trivial⟩ ?_
      exact ih_34 _ _ _ _ (lq_l h)
set_option maxHeartbeats 4000000 in
set_option maxRecDepth 100000 in
theorem t_m_areAlike {l : Launch} {D : va_G} {G : Nat → ClassId} {d : Nat} (hdp : 1 ≤ d) {c r : jS} {a1 : Int32} {a2 : Int32} {vE : Int32} {cE : jS} (h : m_areAlike c a1 a2 = some (vE, cE)) : jC l D G d M_m_areAlike [.ref 30, .int a1, .int a2] (jmix r c) (some (.int vE)) (jmix r cE) := by
  refine jM_of rfl (Nat.le_of_ble_eq_true rfl) ?_
  intro X hl hD hG _ _ hX hE _
  subst hl hD hG
  unfold m_areAlike at h
  show J X 0 0 jN (jE (jmix r c)) [(0, .ref 30), (1, .int a1), (2, .int a2)] [] 0
  refine j_aload_n (pc := 0) hX dX10_areAlike_0 rfl rfl ?_
  refine k_getR (pc := 1) (q := 40) hX fl_10_45 dX10_areAlike_1 rfl rfl ?_
  refine j_iload_n (pc := 4) hX dX10_areAlike_4 rfl rfl ?_
  obtain ⟨hg, h⟩ := gd_some h
  refine k_iald (pc := 5) (x := (c 40 (a1).toNatClampNeg)) hX dX10_areAlike_5 rfl hg rfl ?_
  refine j_aload_n (pc := 6) hX dX10_areAlike_6 rfl rfl ?_
  refine k_getR (pc := 7) (q := 40) hX fl_10_45 dX10_areAlike_7 rfl rfl ?_
  refine j_iload_n (pc := 10) hX dX10_areAlike_10 rfl rfl ?_
  obtain ⟨hg, h⟩ := gd_some h
  refine k_iald (pc := 11) (x := (c 40 (a2).toNatClampNeg)) hX dX10_areAlike_11 rfl hg rfl ?_
  refine j_icmp_ne (pc := 12) (tgt := 30) hX dX10_areAlike_12 (by decide) (fun z => ?_) (fun z => ?_)
  · replace h := ite_f z h
    refine j_iconst (pc := 30) (v := (0 : Int32)) hX dX10_areAlike_30 (by decide) ?_
    obtain ⟨h, h0⟩ := Prod.mk.inj (Option.some.inj h)
    subst h h0
    exact j_iret (pc := 31) hX hE rfl rfl dX10_areAlike_31 (Nat.le_refl 0) (Nat.le_refl 0) ⟨rfl, rfl, rfl⟩
  · replace h := ite_t z h
    refine j_aload_n (pc := 15) hX dX10_areAlike_15 rfl rfl ?_
    refine k_getR (pc := 16) (q := 41) hX fl_10_48 dX10_areAlike_16 rfl rfl ?_
    refine j_iload_n (pc := 19) hX dX10_areAlike_19 rfl rfl ?_
    obtain ⟨hg, h⟩ := gd_some h
    refine k_iald (pc := 20) (x := (c 41 (a1).toNatClampNeg)) hX dX10_areAlike_20 rfl hg rfl ?_
    refine j_aload_n (pc := 21) hX dX10_areAlike_21 rfl rfl ?_
    refine k_getR (pc := 22) (q := 41) hX fl_10_48 dX10_areAlike_22 rfl rfl ?_
    refine j_iload_n (pc := 25) hX dX10_areAlike_25 rfl rfl ?_
    obtain ⟨hg, h⟩ := gd_some h
    refine k_iald (pc := 26) (x := (c 41 (a2).toNatClampNeg)) hX dX10_areAlike_26 rfl hg rfl ?_
    refine j_icmp_eq (pc := 27) (tgt := 32) hX dX10_areAlike_27 (by decide) (fun z => ?_) (fun z => ?_)
    · replace h := ite_t z h
      refine j_iconst (pc := 32) (v := (0 : Int32)) hX dX10_areAlike_32 (by decide) ?_
      refine j_istore_n (pc := 33) hX dX10_areAlike_33 rfl (by decide) (by decide) ?_
      refine j_sub (lv' := [(0, .ref 30), (1, .int a1), (2, .int a2), (3, .int (0 : Int32))]) ⟨rfl, rfl, rfl, rfl, trivial⟩ ?_
      exact tl_m_areAlike_L34 hX hdp hE _ _ _ _ h
    · replace h := ite_f z h
      refine j_iconst (pc := 30) (v := (0 : Int32)) hX dX10_areAlike_30 (by decide) ?_
      obtain ⟨h, h0⟩ := Prod.mk.inj (Option.some.inj h)
      subst h h0
      exact j_iret (pc := 31) hX hE rfl rfl dX10_areAlike_31 (Nat.le_refl 0) (Nat.le_refl 0) ⟨rfl, rfl, rfl⟩

set_option maxHeartbeats 4000000 in
set_option maxRecDepth 100000 in
theorem t_m_alike {l : Launch} {D : va_G} {G : Nat → ClassId} {d : Nat} (hdp : 2 ≤ d) {c r : jS} {a1 : Int32} {a2 : Int32} {vE : Int32} {cE : jS} (h : m_alike c a1 a2 = some (vE, cE)) : jC l D G d M_m_alike [.ref 30, .int a1, .int a2] (jmix r c) (some (.int vE)) (jmix r cE) := by
  refine jM_of rfl (Nat.le_of_ble_eq_true rfl) ?_
  intro X hl hD hG _ _ hX hE _
  subst hl hD hG
  unfold m_alike at h
  show J X 0 0 jN (jE (jmix r c)) [(0, .ref 30), (1, .int a1), (2, .int a2)] [] 0
  refine j_aload_n (pc := 0) hX dX10_alike_0 rfl rfl ?_
  refine j_iload_n (pc := 1) hX dX10_alike_1 rfl rfl ?_
  obtain ⟨r1, h1, h⟩ := ob_some h
  refine k_callVI (pc := 2) (st := []) hX ln_10_136 dX10_alike_2 (t_m_isTerm (d := 1) (Nat.le_refl _) h1) rfl rfl rfl (by omega) (Nat.le_of_ble_eq_true rfl) ?_
  refine j_if_eq (pc := 5) (tgt := 16) hX dX10_alike_5 (by decide) (fun z => ?_) (fun z => ?_)
  · replace h := ite_t z h
    refine j_iconst (pc := 16) (v := (-1 : Int32)) hX dX10_alike_16 (by decide) ?_
    refine j_goto (pc := 17) (tgt := 34) hX dX10_alike_17 (by decide) ?_
    obtain ⟨h, h0⟩ := Prod.mk.inj (Option.some.inj h)
    subst h h0
    exact j_iret (pc := 34) hX hE rfl rfl dX10_alike_34 (Nat.le_refl 0) (Nat.le_refl 0) ⟨rfl, rfl, rfl⟩
  · replace h := ite_f z h
    refine j_aload_n (pc := 8) hX dX10_alike_8 rfl rfl ?_
    refine j_iload_n (pc := 9) hX dX10_alike_9 rfl rfl ?_
    obtain ⟨r2, h1, h⟩ := ob_some h
    refine k_callVI (pc := 10) (st := []) hX ln_10_136 dX10_alike_10 (t_m_isTerm (d := 1) (Nat.le_refl _) h1) rfl rfl rfl (by omega) (Nat.le_of_ble_eq_true rfl) ?_
    refine j_if_ne (pc := 13) (tgt := 20) hX dX10_alike_13 (by decide) (fun z => ?_) (fun z => ?_)
    · replace h := ite_f z h
      refine j_aload_n (pc := 20) hX dX10_alike_20 rfl rfl ?_
      refine j_iload_n (pc := 21) hX dX10_alike_21 rfl rfl ?_
      refine j_iload_n (pc := 22) hX dX10_alike_22 rfl rfl ?_
      obtain ⟨r3, c4, h1, h⟩ := bd_some h
      refine k_callVI (pc := 23) (st := []) hX ln_10_181 dX10_alike_23 (t_m_areAlike (d := 1) (Nat.le_refl _) h1) rfl rfl rfl (by omega) (Nat.le_of_ble_eq_true rfl) ?_
      refine j_if_eq (pc := 26) (tgt := 33) hX dX10_alike_26 (by decide) (fun z => ?_) (fun z => ?_)
      · replace h := ite_t z h
        refine j_iconst (pc := 33) (v := (0 : Int32)) hX dX10_alike_33 (by decide) ?_
        obtain ⟨h, h0⟩ := Prod.mk.inj (Option.some.inj h)
        subst h h0
        exact j_iret (pc := 34) hX hE rfl rfl dX10_alike_34 (Nat.le_refl 0) (Nat.le_refl 0) ⟨rfl, rfl, rfl⟩
      · replace h := ite_f z h
        refine j_iconst (pc := 29) (v := (1 : Int32)) hX dX10_alike_29 (by decide) ?_
        refine j_goto (pc := 30) (tgt := 34) hX dX10_alike_30 (by decide) ?_
        obtain ⟨h, h0⟩ := Prod.mk.inj (Option.some.inj h)
        subst h h0
        exact j_iret (pc := 34) hX hE rfl rfl dX10_alike_34 (Nat.le_refl 0) (Nat.le_refl 0) ⟨rfl, rfl, rfl⟩
    · replace h := ite_t z h
      refine j_iconst (pc := 16) (v := (-1 : Int32)) hX dX10_alike_16 (by decide) ?_
      refine j_goto (pc := 17) (tgt := 34) hX dX10_alike_17 (by decide) ?_
      obtain ⟨h, h0⟩ := Prod.mk.inj (Option.some.inj h)
      subst h h0
      exact j_iret (pc := 34) hX hE rfl rfl dX10_alike_34 (Nat.le_refl 0) (Nat.le_refl 0) ⟨rfl, rfl, rfl⟩

set_option maxHeartbeats 4000000 in
set_option maxRecDepth 100000 in
theorem tl_m_least_L12 {X : jX} {d : Nat} {r : jS} {vE : Int32} {cE : jS} (hX : jOk X RX10 cX10_least 3 d) (hdp : 2 ≤ d) (hE : jEnd X (some .int) 0 0 (fun r0 n0 h0 => r0 = (some (.int vE)) ∧ n0 = jN ∧ h0 = jE (jmix r cE))) : ∀ (v1 : Int32) (v2 : Int32) (c : jS), m_least_L12 v1 v2 c = some (vE, cE) → J X 0 0 jN (jE (jmix r c)) [(0, .ref 30), (1, .int v1), (2, .int v2)] [] 12 := by
  intro v1 v2 c h
  unfold m_least_L12 at h
  replace h := lp_some h
  obtain ⟨k_12, h⟩ := h
  induction k_12 generalizing v1 v2 c with
  | zero => cases h
  | succ k_12 ih_12 =>
    replace h : lq (fun s : (Int32 × Int32 × jS) => m_least_S12 s.1 s.2.1 s.2.2) k_12 (vE, cE) (m_least_S12 v1 v2 c) := lpk_succ (s := (v1, v2, c)) h
    conv at h => arg 4; unfold m_least_S12
    refine j_aload_n (pc := 12) hX dX10_least_12 rfl rfl ?_
    refine j_iload_n (pc := 13) hX dX10_least_13 rfl rfl ?_
    refine j_iload_n (pc := 14) hX dX10_least_14 rfl rfl ?_
    obtain ⟨r2, c3, h1, h⟩ := lq_bd h
    refine k_callVI (pc := 15) (st := []) hX ln_10_181 dX10_least_15 (t_m_areAlike (d := 1) (Nat.le_refl _) h1) rfl rfl rfl (by omega) (Nat.le_of_ble_eq_true rfl) ?_
    refine j_if_ne (pc := 18) (tgt := 27) hX dX10_least_18 (by decide) (fun z => ?_) (fun z => ?_)
    · replace h := lq_f z h
      refine j_iload_n (pc := 27) hX dX10_least_27 rfl rfl ?_
      replace h := lq_r h
      obtain ⟨h, h0⟩ := Prod.mk.inj (Option.some.inj h)
      subst h h0
      exact j_iret (pc := 28) hX hE rfl rfl dX10_least_28 (Nat.le_refl 0) (Nat.le_refl 0) ⟨rfl, rfl, rfl⟩
    · replace h := lq_t z h
      refine j_iinc (pc := 21) hX dX10_least_21 rfl (v := (v2 + (1 : Int32))) rfl (by decide) (by decide) ?_
      refine j_goto (pc := 24) (tgt := 12) hX dX10_least_24 (by decide) ?_
      refine j_sub (lv' := [(0, .ref 30), (1, .int v1), (2, .int (v2 + (1 : Int32)))]) ⟨rfl, rfl, rfl, trivial⟩ ?_
      exact ih_12 _ _ _ (lq_l h)
set_option maxHeartbeats 4000000 in
set_option maxRecDepth 100000 in
theorem t_m_least {l : Launch} {D : va_G} {G : Nat → ClassId} {d : Nat} (hdp : 2 ≤ d) {c r : jS} {a1 : Int32} {vE : Int32} {cE : jS} (h : m_least c a1 = some (vE, cE)) : jC l D G d M_m_least [.ref 30, .int a1] (jmix r c) (some (.int vE)) (jmix r cE) := by
  refine jM_of rfl (Nat.le_of_ble_eq_true rfl) ?_
  intro X hl hD hG _ _ hX hE _
  subst hl hD hG
  unfold m_least at h
  show J X 0 0 jN (jE (jmix r c)) [(0, .ref 30), (1, .int a1)] [] 0
  refine j_aload_n (pc := 0) hX dX10_least_0 rfl rfl ?_
  refine j_iload_n (pc := 1) hX dX10_least_1 rfl rfl ?_
  obtain ⟨r1, h1, h⟩ := ob_some h
  refine k_callVI (pc := 2) (st := []) hX ln_10_136 dX10_least_2 (t_m_isTerm (d := 1) (Nat.le_refl _) h1) rfl rfl rfl (by omega) (Nat.le_of_ble_eq_true rfl) ?_
  refine j_if_ne (pc := 5) (tgt := 10) hX dX10_least_5 (by decide) (fun z => ?_) (fun z => ?_)
  · replace h := ite_f z h
    refine j_iconst (pc := 10) (v := (0 : Int32)) hX dX10_least_10 (by decide) ?_
    refine j_istore_n (pc := 11) hX dX10_least_11 rfl (by decide) (by decide) ?_
    refine j_sub (lv' := [(0, .ref 30), (1, .int a1), (2, .int (0 : Int32))]) ⟨rfl, rfl, rfl, trivial⟩ ?_
    exact tl_m_least_L12 hX hdp hE _ _ _ h
  · replace h := ite_t z h
    refine j_iconst (pc := 8) (v := (-1 : Int32)) hX dX10_least_8 (by decide) ?_
    obtain ⟨h, h0⟩ := Prod.mk.inj (Option.some.inj h)
    subst h h0
    exact j_iret (pc := 9) hX hE rfl rfl dX10_least_9 (Nat.le_refl 0) (Nat.le_refl 0) ⟨rfl, rfl, rfl⟩

set_option maxHeartbeats 4000000 in
set_option maxRecDepth 100000 in
theorem t_m_pushPut {l : Launch} {D : va_G} {G : Nat → ClassId} {d : Nat} (hdp : 1 ≤ d) {c r : jS} {a1 : Int32} {a2 : Int32} {a3 : Int32} {cE : jS} (h : m_pushPut c a1 a2 a3 = some ((), cE)) : jC l D G d M_m_pushPut [.ref 30, .int a1, .int a2, .int a3] (jmix r c) none (jmix r cE) := by
  refine jM_of rfl (Nat.le_of_ble_eq_true rfl) ?_
  intro X hl hD hG _ _ hX hE _
  subst hl hD hG
  unfold m_pushPut at h
  show J X 0 0 jN (jE (jmix r c)) [(0, .ref 30), (1, .int a1), (2, .int a2), (3, .int a3)] [] 0
  refine j_aload_n (pc := 0) hX dX10_pushPut_0 rfl rfl ?_
  refine j_iload_n (pc := 1) hX dX10_pushPut_1 rfl rfl ?_
  obtain ⟨_u, c1, h1, h⟩ := bd_some h
  refine k_callVV (pc := 2) (st := []) hX ln_10_154 dX10_pushPut_2 (t_m_push (d := 0) (Nat.le_refl _) h1) rfl rfl rfl (by omega) (Nat.le_of_ble_eq_true rfl) ?_
  refine j_aload_n (pc := 5) hX dX10_pushPut_5 rfl rfl ?_
  refine k_getR (pc := 6) (q := 48) hX fl_10_69 dX10_pushPut_6 rfl rfl ?_
  refine j_aload_n (pc := 9) hX dX10_pushPut_9 rfl rfl ?_
  refine k_getI (pc := 10) (x := (c1 30 14)) hX fl_10_145 dX10_pushPut_10 rfl rfl rfl ?_
  refine j_iconst (pc := 13) (v := (1 : Int32)) hX dX10_pushPut_13 (by decide) ?_
  refine j_isub (pc := 14) hX dX10_pushPut_14 ?_
  refine j_iload_n (pc := 15) hX dX10_pushPut_15 rfl rfl ?_
  obtain ⟨hg, h⟩ := gd_some h
  obtain ⟨c2, hc, h⟩ := lt_some h
  refine k_iast (pc := 16) (c' := jmix r c2) hX dX10_pushPut_16 rfl hg (jmix_me rfl hc) ?_
  refine j_aload_n (pc := 17) hX dX10_pushPut_17 rfl rfl ?_
  refine k_getR (pc := 18) (q := 49) hX fl_10_72 dX10_pushPut_18 rfl rfl ?_
  refine j_aload_n (pc := 21) hX dX10_pushPut_21 rfl rfl ?_
  refine k_getI (pc := 22) (x := (c2 30 14)) hX fl_10_145 dX10_pushPut_22 rfl rfl rfl ?_
  refine j_iconst (pc := 25) (v := (1 : Int32)) hX dX10_pushPut_25 (by decide) ?_
  refine j_isub (pc := 26) hX dX10_pushPut_26 ?_
  refine j_iload_n (pc := 27) hX dX10_pushPut_27 rfl rfl ?_
  obtain ⟨hg, h⟩ := gd_some h
  obtain ⟨c3, hc, h⟩ := lt_some h
  refine k_iast (pc := 28) (c' := jmix r c3) hX dX10_pushPut_28 rfl hg (jmix_me rfl hc) ?_
  obtain ⟨_, h⟩ := Prod.mk.inj (Option.some.inj h)
  subst h
  exact j_vret (pc := 29) hX hE dX10_pushPut_29 (Nat.le_refl 0) (Nat.le_refl 0) ⟨rfl, rfl, rfl⟩

set_option maxHeartbeats 4000000 in
set_option maxRecDepth 100000 in
theorem tj_m_newLetter_P32_2 {X : jX} {d : Nat} {c r : jS} {vE : Int32} (hX : jOk X RX10 cX10_newLetter 4 d) (hdp : 1 ≤ d) (hE : jEnd X (some .int) 0 0 (fun r0 n0 h0 => r0 = (some (.int vE)) ∧ n0 = jN ∧ h0 = jE (jmix r c))) {k_2 : Nat} (ih_2 : ∀ (v1 : Int32) (v2 : Int32) (v3 : Int32), lpk (fun s : (Int32 × Int32 × Int32) => m_newLetter_S2 s.1 s.2.1 s.2.2 c) k_2 (v1, v2, v3) = some vE → J X 0 0 jN (jE (jmix r c)) [(0, .ref 30), (1, .int v1), (2, .int v2), (3, .int v3)] [] 2) : ∀ (v3 : Int32), lq (fun s : (Int32 × Int32 × Int32) => m_newLetter_S2 s.1 s.2.1 s.2.2 c) k_2 vE (m_newLetter_P32_2 v3 c) → J X 0 0 jN (jE (jmix r c)) [(3, .int v3)] [] 32 := by
  intro v3 h
  conv at h => arg 4; unfold m_newLetter_P32_2
  refine j_iload_n (pc := 32) hX dX10_newLetter_32 rfl rfl ?_
  refine j_bipush (pc := 33) (v := (26 : Int32)) hX dX10_newLetter_33 (by decide) ?_
  refine j_icmp_ge (pc := 35) (tgt := 42) hX dX10_newLetter_35 (by decide) (fun z => ?_) (fun z => ?_)
  · replace h := lq_t z h
    refine j_bipush (pc := 42) (v := (-3 : Int32)) hX dX10_newLetter_42 (by decide) ?_
    replace h := lq_r h
    replace h := Option.some.inj h
    subst h
    exact j_iret (pc := 44) hX hE rfl rfl dX10_newLetter_44 (Nat.le_refl 0) (Nat.le_refl 0) ⟨rfl, rfl, rfl⟩
  · replace h := lq_f z h
    refine j_iload_n (pc := 38) hX dX10_newLetter_38 rfl rfl ?_
    refine j_goto (pc := 39) (tgt := 44) hX dX10_newLetter_39 (by decide) ?_
    replace h := lq_r h
    replace h := Option.some.inj h
    subst h
    exact j_iret (pc := 44) hX hE rfl rfl dX10_newLetter_44 (Nat.le_refl 0) (Nat.le_refl 0) ⟨rfl, rfl, rfl⟩
set_option maxHeartbeats 4000000 in
set_option maxRecDepth 100000 in
theorem tl_m_newLetter_L2 {X : jX} {d : Nat} {c r : jS} {vE : Int32} (hX : jOk X RX10 cX10_newLetter 4 d) (hdp : 1 ≤ d) (hE : jEnd X (some .int) 0 0 (fun r0 n0 h0 => r0 = (some (.int vE)) ∧ n0 = jN ∧ h0 = jE (jmix r c))) : ∀ (v1 : Int32) (v2 : Int32) (v3 : Int32), m_newLetter_L2 v1 v2 v3 c = some vE → J X 0 0 jN (jE (jmix r c)) [(0, .ref 30), (1, .int v1), (2, .int v2), (3, .int v3)] [] 2 := by
  intro v1 v2 v3 h
  unfold m_newLetter_L2 at h
  replace h := lp_some h
  obtain ⟨k_2, h⟩ := h
  induction k_2 generalizing v1 v2 v3 with
  | zero => cases h
  | succ k_2 ih_2 =>
    replace h : lq (fun s : (Int32 × Int32 × Int32) => m_newLetter_S2 s.1 s.2.1 s.2.2 c) k_2 vE (m_newLetter_S2 v1 v2 v3 c) := lpk_succ (s := (v1, v2, v3)) h
    conv at h => arg 4; unfold m_newLetter_S2
    refine j_iload_n (pc := 2) hX dX10_newLetter_2 rfl rfl ?_
    refine j_bipush (pc := 3) (v := (26 : Int32)) hX dX10_newLetter_3 (by decide) ?_
    refine j_icmp_ge (pc := 5) (tgt := 32) hX dX10_newLetter_5 (by decide) (fun z => ?_) (fun z => ?_)
    · replace h := lq_t z h
      refine j_sub (lv' := [(3, .int v3)]) ⟨rfl, trivial⟩ ?_
      exact tj_m_newLetter_P32_2 hX hdp hE ih_2 _ h
    · replace h := lq_f z h
      refine j_aload_n (pc := 8) hX dX10_newLetter_8 rfl rfl ?_
      refine j_iload_n (pc := 9) hX dX10_newLetter_9 rfl rfl ?_
      refine j_iload_n (pc := 10) hX dX10_newLetter_10 rfl rfl ?_
      obtain ⟨r1, h1, h⟩ := lq_ob h
      refine k_callVI (pc := 11) (st := []) hX ln_10_141 dX10_newLetter_11 (t_m_isFree (d := 0) (Nat.le_refl _) h1) rfl rfl rfl (by omega) (Nat.le_of_ble_eq_true rfl) ?_
      refine j_if_ne (pc := 14) (tgt := 26) hX dX10_newLetter_14 (by decide) (fun z => ?_) (fun z => ?_)
      · replace h := lq_f z h
        refine j_iinc (pc := 26) hX dX10_newLetter_26 rfl (v := (v3 + (1 : Int32))) rfl (by decide) (by decide) ?_
        refine j_goto (pc := 29) (tgt := 2) hX dX10_newLetter_29 (by decide) ?_
        refine j_sub (lv' := [(0, .ref 30), (1, .int v1), (2, .int v2), (3, .int (v3 + (1 : Int32)))]) ⟨rfl, rfl, rfl, rfl, trivial⟩ ?_
        exact ih_2 _ _ _ (lq_l h)
      · replace h := lq_t z h
        refine j_aload_n (pc := 17) hX dX10_newLetter_17 rfl rfl ?_
        refine j_iload_n (pc := 18) hX dX10_newLetter_18 rfl rfl ?_
        refine j_iload_n (pc := 19) hX dX10_newLetter_19 rfl rfl ?_
        obtain ⟨r2, h1, h⟩ := lq_ob h
        refine k_callVI (pc := 20) (st := []) hX ln_10_141 dX10_newLetter_20 (t_m_isFree (d := 0) (Nat.le_refl _) h1) rfl rfl rfl (by omega) (Nat.le_of_ble_eq_true rfl) ?_
        refine j_if_eq (pc := 23) (tgt := 32) hX dX10_newLetter_23 (by decide) (fun z => ?_) (fun z => ?_)
        · replace h := lq_t z h
          refine j_sub (lv' := [(3, .int v3)]) ⟨rfl, trivial⟩ ?_
          exact tj_m_newLetter_P32_2 hX hdp hE ih_2 _ h
        · replace h := lq_f z h
          refine j_iinc (pc := 26) hX dX10_newLetter_26 rfl (v := (v3 + (1 : Int32))) rfl (by decide) (by decide) ?_
          refine j_goto (pc := 29) (tgt := 2) hX dX10_newLetter_29 (by decide) ?_
          refine j_sub (lv' := [(0, .ref 30), (1, .int v1), (2, .int v2), (3, .int (v3 + (1 : Int32)))]) ⟨rfl, rfl, rfl, rfl, trivial⟩ ?_
          exact ih_2 _ _ _ (lq_l h)
set_option maxHeartbeats 4000000 in
set_option maxRecDepth 100000 in
theorem t_m_newLetter {l : Launch} {D : va_G} {G : Nat → ClassId} {d : Nat} (hdp : 1 ≤ d) {c r : jS} {a1 : Int32} {a2 : Int32} {vE : Int32} (h : m_newLetter c a1 a2 = some vE) : jC l D G d M_m_newLetter [.ref 30, .int a1, .int a2] (jmix r c) (some (.int vE)) (jmix r c) := by
  refine jM_of rfl (Nat.le_of_ble_eq_true rfl) ?_
  intro X hl hD hG _ _ hX hE _
  subst hl hD hG
  unfold m_newLetter at h
  show J X 0 0 jN (jE (jmix r c)) [(0, .ref 30), (1, .int a1), (2, .int a2)] [] 0
  refine j_iconst (pc := 0) (v := (0 : Int32)) hX dX10_newLetter_0 (by decide) ?_
  refine j_istore_n (pc := 1) hX dX10_newLetter_1 rfl (by decide) (by decide) ?_
  refine j_sub (lv' := [(0, .ref 30), (1, .int a1), (2, .int a2), (3, .int (0 : Int32))]) ⟨rfl, rfl, rfl, rfl, trivial⟩ ?_
  exact tl_m_newLetter_L2 hX hdp hE _ _ _ h

set_option maxHeartbeats 4000000 in
set_option maxRecDepth 100000 in
theorem tj_m_remade_P47 {X : jX} {d : Nat} {r : jS} {vE : Int32} {cE : jS} (hX : jOk X RX10 cX10_remade 7 d) (hdp : 2 ≤ d) (hE : jEnd X (some .int) 0 0 (fun r0 n0 h0 => r0 = (some (.int vE)) ∧ n0 = jN ∧ h0 = jE (jmix r cE))) : ∀ (v1 : Int32) (v2 : Int32) (v3 : Int32) (v4 : Int32) (v5 : Int32) (s0 : Int32) (c : jS), m_remade_P47 v1 v2 v3 v4 v5 s0 c = some (vE, cE) → J X 0 0 jN (jE (jmix r c)) [(0, .ref 30), (1, .int v1), (2, .int v2), (3, .int v3), (4, .int v4), (5, .int v5)] [.int s0] 47 := by
  intro v1 v2 v3 v4 v5 s0 c h
  unfold m_remade_P47 at h
  refine j_istore (pc := 47) hX dX10_remade_47 (by decide) (by decide) ?_
  refine j_iload (pc := 49) hX dX10_remade_49 rfl ?_
  refine j_if_eq (pc := 51) (tgt := 58) hX dX10_remade_51 (by decide) (fun z => ?_) (fun z => ?_)
  · replace h := ite_t z h
    refine j_aload_n (pc := 58) hX dX10_remade_58 rfl rfl ?_
    refine j_aload_n (pc := 59) hX dX10_remade_59 rfl rfl ?_
    refine k_getR (pc := 60) (q := 35) hX fl_10_30 dX10_remade_60 rfl rfl ?_
    refine j_iload_n (pc := 63) hX dX10_remade_63 rfl rfl ?_
    obtain ⟨hg, h⟩ := gd_some h
    refine k_iald (pc := 64) (x := (c 35 (v1).toNatClampNeg)) hX dX10_remade_64 rfl hg rfl ?_
    refine j_iconst (pc := 65) (v := (0 : Int32)) hX dX10_remade_65 (by decide) ?_
    refine j_iload_n (pc := 66) hX dX10_remade_66 rfl rfl ?_
    refine j_aload_n (pc := 67) hX dX10_remade_67 rfl rfl ?_
    refine k_getR (pc := 68) (q := 38) hX fl_10_39 dX10_remade_68 rfl rfl ?_
    refine j_iload_n (pc := 71) hX dX10_remade_71 rfl rfl ?_
    obtain ⟨hg, h⟩ := gd_some h
    refine k_iald (pc := 72) (x := (c 38 (v1).toNatClampNeg)) hX dX10_remade_72 rfl hg rfl ?_
    refine j_iload_n (pc := 73) hX dX10_remade_73 rfl rfl ?_
    refine j_iload (pc := 74) hX dX10_remade_74 rfl ?_
    refine j_iload (pc := 76) hX dX10_remade_76 rfl ?_
    obtain ⟨r1, c2, h1, h⟩ := bd_some h
    refine k_callVI (pc := 78) (st := []) hX ln_10_132 dX10_remade_78 (t_m_make (d := 1) (Nat.le_refl _) h1) rfl rfl rfl (by omega) (Nat.le_of_ble_eq_true rfl) ?_
    obtain ⟨h, h0⟩ := Prod.mk.inj (Option.some.inj h)
    subst h h0
    exact j_iret (pc := 81) hX hE rfl rfl dX10_remade_81 (Nat.le_refl 0) (Nat.le_refl 0) ⟨rfl, rfl, rfl⟩
  · replace h := ite_f z h
    refine j_iload_n (pc := 54) hX dX10_remade_54 rfl rfl ?_
    refine j_goto (pc := 55) (tgt := 81) hX dX10_remade_55 (by decide) ?_
    obtain ⟨h, h0⟩ := Prod.mk.inj (Option.some.inj h)
    subst h h0
    exact j_iret (pc := 81) hX hE rfl rfl dX10_remade_81 (Nat.le_refl 0) (Nat.le_refl 0) ⟨rfl, rfl, rfl⟩
set_option maxHeartbeats 4000000 in
set_option maxRecDepth 100000 in
theorem tj_m_remade_P46 {X : jX} {d : Nat} {r : jS} {vE : Int32} {cE : jS} (hX : jOk X RX10 cX10_remade 7 d) (hdp : 2 ≤ d) (hE : jEnd X (some .int) 0 0 (fun r0 n0 h0 => r0 = (some (.int vE)) ∧ n0 = jN ∧ h0 = jE (jmix r cE))) : ∀ (v1 : Int32) (v2 : Int32) (v3 : Int32) (v4 : Int32) (v5 : Int32) (c : jS), m_remade_P46 v1 v2 v3 v4 v5 c = some (vE, cE) → J X 0 0 jN (jE (jmix r c)) [(0, .ref 30), (1, .int v1), (2, .int v2), (3, .int v3), (4, .int v4), (5, .int v5)] [] 46 := by
  intro v1 v2 v3 v4 v5 c h
  unfold m_remade_P46 at h
  refine j_iconst (pc := 46) (v := (0 : Int32)) hX dX10_remade_46 (by decide) ?_
  refine j_sub (lv' := [(0, .ref 30), (1, .int v1), (2, .int v2), (3, .int v3), (4, .int v4), (5, .int v5)]) ⟨rfl, rfl, rfl, rfl, rfl, rfl, trivial⟩ ?_
  exact tj_m_remade_P47 hX hdp hE _ _ _ _ _ _ _ h
set_option maxHeartbeats 4000000 in
set_option maxRecDepth 100000 in
theorem t_m_remade {l : Launch} {D : va_G} {G : Nat → ClassId} {d : Nat} (hdp : 2 ≤ d) {c r : jS} {a1 : Int32} {a2 : Int32} {a3 : Int32} {a4 : Int32} {a5 : Int32} {vE : Int32} {cE : jS} (h : m_remade c a1 a2 a3 a4 a5 = some (vE, cE)) : jC l D G d M_m_remade [.ref 30, .int a1, .int a2, .int a3, .int a4, .int a5] (jmix r c) (some (.int vE)) (jmix r cE) := by
  refine jM_of rfl (Nat.le_of_ble_eq_true rfl) ?_
  intro X hl hD hG _ _ hX hE _
  subst hl hD hG
  unfold m_remade at h
  show J X 0 0 jN (jE (jmix r c)) [(0, .ref 30), (1, .int a1), (2, .int a2), (3, .int a3), (4, .int a4), (5, .int a5)] [] 0
  refine j_iload_n (pc := 0) hX dX10_remade_0 rfl rfl ?_
  refine j_aload_n (pc := 1) hX dX10_remade_1 rfl rfl ?_
  refine k_getR (pc := 2) (q := 37) hX fl_10_36 dX10_remade_2 rfl rfl ?_
  refine j_iload_n (pc := 5) hX dX10_remade_5 rfl rfl ?_
  obtain ⟨hg, h⟩ := gd_some h
  refine k_iald (pc := 6) (x := (c 37 (a1).toNatClampNeg)) hX dX10_remade_6 rfl hg rfl ?_
  refine j_icmp_ne (pc := 7) (tgt := 46) hX dX10_remade_7 (by decide) (fun z => ?_) (fun z => ?_)
  · replace h := ite_f z h
    refine j_sub (lv' := [(0, .ref 30), (1, .int a1), (2, .int a2), (3, .int a3), (4, .int a4), (5, .int a5)]) ⟨rfl, rfl, rfl, rfl, rfl, rfl, trivial⟩ ?_
    exact tj_m_remade_P46 hX hdp hE _ _ _ _ _ _ h
  · replace h := ite_t z h
    refine j_iload_n (pc := 10) hX dX10_remade_10 rfl rfl ?_
    refine j_aload_n (pc := 11) hX dX10_remade_11 rfl rfl ?_
    refine j_iload_n (pc := 12) hX dX10_remade_12 rfl rfl ?_
    refine j_iconst (pc := 13) (v := (0 : Int32)) hX dX10_remade_13 (by decide) ?_
    obtain ⟨r3, h1, h⟩ := ob_some h
    refine k_callVI (pc := 14) (st := [.int a3]) hX ln_10_126 dX10_remade_14 (t_m_part (d := 0) (Nat.le_refl _) h1) rfl rfl rfl (by omega) (Nat.le_of_ble_eq_true rfl) ?_
    refine j_icmp_ne (pc := 17) (tgt := 46) hX dX10_remade_17 (by decide) (fun z => ?_) (fun z => ?_)
    · replace h := ite_f z h
      refine j_sub (lv' := [(0, .ref 30), (1, .int a1), (2, .int a2), (3, .int a3), (4, .int a4), (5, .int a5)]) ⟨rfl, rfl, rfl, rfl, rfl, rfl, trivial⟩ ?_
      exact tj_m_remade_P46 hX hdp hE _ _ _ _ _ _ h
    · replace h := ite_t z h
      refine j_iload (pc := 20) hX dX10_remade_20 rfl ?_
      refine j_aload_n (pc := 22) hX dX10_remade_22 rfl rfl ?_
      refine j_iload_n (pc := 23) hX dX10_remade_23 rfl rfl ?_
      refine j_iconst (pc := 24) (v := (1 : Int32)) hX dX10_remade_24 (by decide) ?_
      obtain ⟨r4, h1, h⟩ := ob_some h
      refine k_callVI (pc := 25) (st := [.int a4]) hX ln_10_126 dX10_remade_25 (t_m_part (d := 0) (Nat.le_refl _) h1) rfl rfl rfl (by omega) (Nat.le_of_ble_eq_true rfl) ?_
      refine j_icmp_ne (pc := 28) (tgt := 46) hX dX10_remade_28 (by decide) (fun z => ?_) (fun z => ?_)
      · replace h := ite_f z h
        refine j_sub (lv' := [(0, .ref 30), (1, .int a1), (2, .int a2), (3, .int a3), (4, .int a4), (5, .int a5)]) ⟨rfl, rfl, rfl, rfl, rfl, rfl, trivial⟩ ?_
        exact tj_m_remade_P46 hX hdp hE _ _ _ _ _ _ h
      · replace h := ite_t z h
        refine j_iload (pc := 31) hX dX10_remade_31 rfl ?_
        refine j_aload_n (pc := 33) hX dX10_remade_33 rfl rfl ?_
        refine j_iload_n (pc := 34) hX dX10_remade_34 rfl rfl ?_
        refine j_iconst (pc := 35) (v := (2 : Int32)) hX dX10_remade_35 (by decide) ?_
        obtain ⟨r5, h1, h⟩ := ob_some h
        refine k_callVI (pc := 36) (st := [.int a5]) hX ln_10_126 dX10_remade_36 (t_m_part (d := 0) (Nat.le_refl _) h1) rfl rfl rfl (by omega) (Nat.le_of_ble_eq_true rfl) ?_
        refine j_icmp_ne (pc := 39) (tgt := 46) hX dX10_remade_39 (by decide) (fun z => ?_) (fun z => ?_)
        · replace h := ite_f z h
          refine j_sub (lv' := [(0, .ref 30), (1, .int a1), (2, .int a2), (3, .int a3), (4, .int a4), (5, .int a5)]) ⟨rfl, rfl, rfl, rfl, rfl, rfl, trivial⟩ ?_
          exact tj_m_remade_P46 hX hdp hE _ _ _ _ _ _ h
        · replace h := ite_t z h
          refine j_iconst (pc := 42) (v := (1 : Int32)) hX dX10_remade_42 (by decide) ?_
          refine j_goto (pc := 43) (tgt := 47) hX dX10_remade_43 (by decide) ?_
          refine j_sub (lv' := [(0, .ref 30), (1, .int a1), (2, .int a2), (3, .int a3), (4, .int a4), (5, .int a5)]) ⟨rfl, rfl, rfl, rfl, rfl, rfl, trivial⟩ ?_
          exact tj_m_remade_P47 hX hdp hE _ _ _ _ _ _ _ h

set_option maxHeartbeats 4000000 in
set_option maxRecDepth 100000 in
theorem tj_m_putBody_P181 {X : jX} {d : Nat} {r : jS} {cE : jS} (hX : jOk X RX10 cX10_putBody 10 d) (hdp : 3 ≤ d) (hE : jEnd X none 0 0 (fun r0 n0 h0 => r0 = none ∧ n0 = jN ∧ h0 = jE (jmix r cE))) : ∀ (v1 : Int32) (v7 : Int32) (v8 : Int32) (v9 : Int32) (s1 : Int32) (c : jS), m_putBody_P181 v1 v7 v8 v9 s1 c = some ((), cE) → J X 0 0 jN (jE (jmix r c)) [(0, .ref 30), (1, .int v1), (7, .int v7), (8, .int v8), (9, .int v9)] [.int s1, .ref 30] 181 := by
  intro v1 v7 v8 v9 s1 c h
  unfold m_putBody_P181 at h
  obtain ⟨c17, hc, h⟩ := lt_some h
  refine k_putI (pc := 181) (c' := jmix r c17) hX pfl_10_151 dX10_putBody_181 rfl rfl (fun _ => ⟨rfl, rfl⟩) (jmix_me rfl hc) ?_
  refine j_aload_n (pc := 184) hX dX10_putBody_184 rfl rfl ?_
  refine k_getR (pc := 185) (q := 46) hX fl_10_63 dX10_putBody_185 rfl rfl ?_
  refine j_iload_n (pc := 188) hX dX10_putBody_188 rfl rfl ?_
  refine j_iload (pc := 189) hX dX10_putBody_189 rfl ?_
  obtain ⟨hg, h⟩ := gd_some h
  obtain ⟨c18, hc, h⟩ := lt_some h
  refine k_iast (pc := 191) (c' := jmix r c18) hX dX10_putBody_191 rfl hg (jmix_me rfl hc) ?_
  refine j_aload_n (pc := 192) hX dX10_putBody_192 rfl rfl ?_
  refine k_getI (pc := 193) (x := (c18 30 22)) hX fl_10_151 dX10_putBody_193 rfl rfl rfl ?_
  refine j_bipush (pc := 196) (v := (-3 : Int32)) hX dX10_putBody_196 (by decide) ?_
  refine j_icmp_eq (pc := 198) (tgt := 221) hX dX10_putBody_198 (by decide) (fun z => ?_) (fun z => ?_)
  · replace h := ite_t z h
    refine j_goto (pc := 221) (tgt := 316) hX dX10_putBody_221 (by decide) ?_
    obtain ⟨_, h⟩ := Prod.mk.inj (Option.some.inj h)
    subst h
    exact j_vret (pc := 316) hX hE dX10_putBody_316 (Nat.le_refl 0) (Nat.le_refl 0) ⟨rfl, rfl, rfl⟩
  · replace h := ite_f z h
    refine j_aload_n (pc := 201) hX dX10_putBody_201 rfl rfl ?_
    refine k_getR (pc := 202) (q := 44) hX fl_10_57 dX10_putBody_202 rfl rfl ?_
    refine j_iload_n (pc := 205) hX dX10_putBody_205 rfl rfl ?_
    refine j_bipush (pc := 206) (v := (12 : Int32)) hX dX10_putBody_206 (by decide) ?_
    obtain ⟨hg, h⟩ := gd_some h
    obtain ⟨c19, hc, h⟩ := lt_some h
    refine k_iast (pc := 208) (c' := jmix r c19) hX dX10_putBody_208 rfl hg (jmix_me rfl hc) ?_
    refine j_aload_n (pc := 209) hX dX10_putBody_209 rfl rfl ?_
    refine j_iload (pc := 210) hX dX10_putBody_210 rfl ?_
    refine j_iload (pc := 212) hX dX10_putBody_212 rfl ?_
    refine j_aload_n (pc := 214) hX dX10_putBody_214 rfl rfl ?_
    refine k_getI (pc := 215) (x := (c19 30 22)) hX fl_10_151 dX10_putBody_215 rfl rfl rfl ?_
    obtain ⟨_u, c20, h1, h⟩ := bd_some h
    refine k_callVV (pc := 218) (st := []) hX ln_10_184 dX10_putBody_218 (t_m_pushPut (d := 1) (Nat.le_refl _) h1) rfl rfl rfl (by omega) (Nat.le_of_ble_eq_true rfl) ?_
    refine j_goto (pc := 221) (tgt := 316) hX dX10_putBody_221 (by decide) ?_
    obtain ⟨_, h⟩ := Prod.mk.inj (Option.some.inj h)
    subst h
    exact j_vret (pc := 316) hX hE dX10_putBody_316 (Nat.le_refl 0) (Nat.le_refl 0) ⟨rfl, rfl, rfl⟩
set_option maxHeartbeats 4000000 in
set_option maxRecDepth 100000 in
theorem tj_m_putBody_P110 {X : jX} {d : Nat} {r : jS} {cE : jS} (hX : jOk X RX10 cX10_putBody 10 d) (hdp : 3 ≤ d) (hE : jEnd X none 0 0 (fun r0 n0 h0 => r0 = none ∧ n0 = jN ∧ h0 = jE (jmix r cE))) : ∀ (v1 : Int32) (v4 : Int32) (v5 : Int32) (v7 : Int32) (v8 : Int32) (c : jS), m_putBody_P110 v1 v4 v5 v7 v8 c = some ((), cE) → J X 0 0 jN (jE (jmix r c)) [(0, .ref 30), (1, .int v1), (4, .int v4), (5, .int v5), (7, .int v7), (8, .int v8)] [] 110 := by
  intro v1 v4 v5 v7 v8 c h
  unfold m_putBody_P110 at h
  refine j_aload_n (pc := 110) hX dX10_putBody_110 rfl rfl ?_
  refine j_iload (pc := 111) hX dX10_putBody_111 rfl ?_
  refine j_iload (pc := 113) hX dX10_putBody_113 rfl ?_
  obtain ⟨r13, h1, h⟩ := ob_some h
  refine k_callVI (pc := 115) (st := []) hX ln_10_141 dX10_putBody_115 (t_m_isFree (d := 0) (Nat.le_refl _) h1) rfl rfl rfl (by omega) (Nat.le_of_ble_eq_true rfl) ?_
  refine j_if_ne (pc := 118) (tgt := 142) hX dX10_putBody_118 (by decide) (fun z => ?_) (fun z => ?_)
  · replace h := ite_f z h
    refine j_aload_n (pc := 142) hX dX10_putBody_142 rfl rfl ?_
    refine j_iload (pc := 143) hX dX10_putBody_143 rfl ?_
    refine j_iload (pc := 145) hX dX10_putBody_145 rfl ?_
    obtain ⟨r14, h1, h⟩ := ob_some h
    refine k_callVI (pc := 147) (st := []) hX ln_10_187 dX10_putBody_147 (t_m_newLetter (d := 1) (Nat.le_refl _) h1) rfl rfl rfl (by omega) (Nat.le_of_ble_eq_true rfl) ?_
    refine j_istore (pc := 150) hX dX10_putBody_150 (by decide) (by decide) ?_
    refine j_aload_n (pc := 152) hX dX10_putBody_152 rfl rfl ?_
    refine j_iload (pc := 153) hX dX10_putBody_153 rfl ?_
    refine j_bipush (pc := 155) (v := (-3 : Int32)) hX dX10_putBody_155 (by decide) ?_
    refine j_icmp_ne (pc := 157) (tgt := 165) hX dX10_putBody_157 (by decide) (fun z => ?_) (fun z => ?_)
    · replace h := ite_f z h
      refine j_aload_n (pc := 165) hX dX10_putBody_165 rfl rfl ?_
      refine j_iconst (pc := 166) (v := (1 : Int32)) hX dX10_putBody_166 (by decide) ?_
      refine j_iconst (pc := 167) (v := (0 : Int32)) hX dX10_putBody_167 (by decide) ?_
      refine j_iload (pc := 168) hX dX10_putBody_168 rfl ?_
      refine j_bipush (pc := 170) (v := (-2 : Int32)) hX dX10_putBody_170 (by decide) ?_
      refine j_bipush (pc := 172) (v := (-2 : Int32)) hX dX10_putBody_172 (by decide) ?_
      refine j_bipush (pc := 174) (v := (-2 : Int32)) hX dX10_putBody_174 (by decide) ?_
      refine j_bipush (pc := 176) (v := (-2 : Int32)) hX dX10_putBody_176 (by decide) ?_
      obtain ⟨r15, c16, h1, h⟩ := bd_some h
      refine k_callVI (pc := 178) (st := [.ref 30]) hX ln_10_132 dX10_putBody_178 (t_m_make (d := 1) (Nat.le_refl _) h1) rfl rfl rfl (by omega) (Nat.le_of_ble_eq_true rfl) ?_
      refine j_sub (lv' := [(0, .ref 30), (1, .int v1), (7, .int v7), (8, .int v8), (9, .int r14)]) ⟨rfl, rfl, rfl, rfl, rfl, trivial⟩ ?_
      exact tj_m_putBody_P181 hX hdp hE _ _ _ _ _ _ h
    · replace h := ite_t z h
      refine j_bipush (pc := 160) (v := (-3 : Int32)) hX dX10_putBody_160 (by decide) ?_
      refine j_goto (pc := 162) (tgt := 181) hX dX10_putBody_162 (by decide) ?_
      refine j_sub (lv' := [(0, .ref 30), (1, .int v1), (7, .int v7), (8, .int v8), (9, .int r14)]) ⟨rfl, rfl, rfl, rfl, rfl, trivial⟩ ?_
      exact tj_m_putBody_P181 hX hdp hE _ _ _ _ _ _ h
  · replace h := ite_t z h
    refine j_aload_n (pc := 121) hX dX10_putBody_121 rfl rfl ?_
    refine k_getR (pc := 122) (q := 44) hX fl_10_57 dX10_putBody_122 rfl rfl ?_
    refine j_iload_n (pc := 125) hX dX10_putBody_125 rfl rfl ?_
    refine j_bipush (pc := 126) (v := (13 : Int32)) hX dX10_putBody_126 (by decide) ?_
    obtain ⟨hg, h⟩ := gd_some h
    obtain ⟨c21, hc, h⟩ := lt_some h
    refine k_iast (pc := 128) (c' := jmix r c21) hX dX10_putBody_128 rfl hg (jmix_me rfl hc) ?_
    refine j_aload_n (pc := 129) hX dX10_putBody_129 rfl rfl ?_
    refine j_iload (pc := 130) hX dX10_putBody_130 rfl ?_
    refine j_iload (pc := 132) hX dX10_putBody_132 rfl ?_
    refine j_iload (pc := 134) hX dX10_putBody_134 rfl ?_
    obtain ⟨_u, c22, h1, h⟩ := bd_some h
    refine k_callVV (pc := 136) (st := []) hX ln_10_184 dX10_putBody_136 (t_m_pushPut (d := 1) (Nat.le_refl _) h1) rfl rfl rfl (by omega) (Nat.le_of_ble_eq_true rfl) ?_
    refine j_goto (pc := 139) (tgt := 316) hX dX10_putBody_139 (by decide) ?_
    obtain ⟨_, h⟩ := Prod.mk.inj (Option.some.inj h)
    subst h
    exact j_vret (pc := 316) hX hE dX10_putBody_316 (Nat.le_refl 0) (Nat.le_refl 0) ⟨rfl, rfl, rfl⟩
set_option maxHeartbeats 4000000 in
set_option maxRecDepth 100000 in
theorem tj_m_putBody_P93 {X : jX} {d : Nat} {r : jS} {cE : jS} (hX : jOk X RX10 cX10_putBody 10 d) (hdp : 3 ≤ d) (hE : jEnd X none 0 0 (fun r0 n0 h0 => r0 = none ∧ n0 = jN ∧ h0 = jE (jmix r cE))) : ∀ (v1 : Int32) (v7 : Int32) (c : jS), m_putBody_P93 v1 v7 c = some ((), cE) → J X 0 0 jN (jE (jmix r c)) [(0, .ref 30), (1, .int v1), (7, .int v7)] [] 93 := by
  intro v1 v7 c h
  unfold m_putBody_P93 at h
  refine j_aload_n (pc := 93) hX dX10_putBody_93 rfl rfl ?_
  refine k_getR (pc := 94) (q := 44) hX fl_10_57 dX10_putBody_94 rfl rfl ?_
  refine j_iload_n (pc := 97) hX dX10_putBody_97 rfl rfl ?_
  refine j_bipush (pc := 98) (v := (13 : Int32)) hX dX10_putBody_98 (by decide) ?_
  obtain ⟨hg, h⟩ := gd_some h
  obtain ⟨c23, hc, h⟩ := lt_some h
  refine k_iast (pc := 100) (c' := jmix r c23) hX dX10_putBody_100 rfl hg (jmix_me rfl hc) ?_
  refine j_aload_n (pc := 101) hX dX10_putBody_101 rfl rfl ?_
  refine j_iload (pc := 102) hX dX10_putBody_102 rfl ?_
  obtain ⟨c24, hc, h⟩ := lt_some h
  refine k_putI (pc := 104) (c' := jmix r c24) hX pfl_10_151 dX10_putBody_104 rfl rfl (fun _ => ⟨rfl, rfl⟩) (jmix_me rfl hc) ?_
  refine j_goto (pc := 107) (tgt := 316) hX dX10_putBody_107 (by decide) ?_
  obtain ⟨_, h⟩ := Prod.mk.inj (Option.some.inj h)
  subst h
  exact j_vret (pc := 316) hX hE dX10_putBody_316 (Nat.le_refl 0) (Nat.le_refl 0) ⟨rfl, rfl, rfl⟩
set_option maxHeartbeats 4000000 in
set_option maxRecDepth 100000 in
theorem tj_m_putBody_P45 {X : jX} {d : Nat} {r : jS} {cE : jS} (hX : jOk X RX10 cX10_putBody 10 d) (hdp : 3 ≤ d) (hE : jEnd X none 0 0 (fun r0 n0 h0 => r0 = none ∧ n0 = jN ∧ h0 = jE (jmix r cE))) : ∀ (v1 : Int32) (v2 : Int32) (v3 : Int32) (v4 : Int32) (v5 : Int32) (v6 : Int32) (s1 : Int32) (s2 : Int32) (c : jS), m_putBody_P45 v1 v2 v3 v4 v5 v6 s1 s2 c = some ((), cE) → J X 0 0 jN (jE (jmix r c)) [(0, .ref 30), (1, .int v1), (2, .int v2), (3, .int v3), (4, .int v4), (5, .int v5), (6, .int v6)] [.int s2, .int s1, .ref 30] 45 := by
  intro v1 v2 v3 v4 v5 v6 s1 s2 c h
  unfold m_putBody_P45 at h
  obtain ⟨r1, h1, h⟩ := ob_some h
  refine k_callVI (pc := 45) (st := []) hX ln_10_126 dX10_putBody_45 (t_m_part (d := 0) (Nat.le_refl _) h1) rfl rfl rfl (by omega) (Nat.le_of_ble_eq_true rfl) ?_
  refine j_istore (pc := 48) hX dX10_putBody_48 (by decide) (by decide) ?_
  refine j_aload_n (pc := 50) hX dX10_putBody_50 rfl rfl ?_
  refine k_getR (pc := 51) (q := 37) hX fl_10_36 dX10_putBody_51 rfl rfl ?_
  refine j_iload_n (pc := 54) hX dX10_putBody_54 rfl rfl ?_
  obtain ⟨hg, h⟩ := gd_some h
  refine k_iald (pc := 55) (x := (c 37 (v2).toNatClampNeg)) hX dX10_putBody_55 rfl hg rfl ?_
  refine j_istore (pc := 56) hX dX10_putBody_56 (by decide) (by decide) ?_
  refine j_iload_n (pc := 58) hX dX10_putBody_58 rfl rfl ?_
  refine j_if_ne (pc := 59) (tgt := 224) hX dX10_putBody_59 (by decide) (fun z => ?_) (fun z => ?_)
  · replace h := ite_f z h
    refine j_iload_n (pc := 224) hX dX10_putBody_224 rfl rfl ?_
    refine j_iconst (pc := 225) (v := (2 : Int32)) hX dX10_putBody_225 (by decide) ?_
    refine j_icmp_ne (pc := 226) (tgt := 252) hX dX10_putBody_226 (by decide) (fun z => ?_) (fun z => ?_)
    · replace h := ite_f z h
      refine j_aload_n (pc := 252) hX dX10_putBody_252 rfl rfl ?_
      refine j_iload (pc := 253) hX dX10_putBody_253 rfl ?_
      refine j_if_eq (pc := 255) (tgt := 284) hX dX10_putBody_255 (by decide) (fun z => ?_) (fun z => ?_)
      · replace h := ite_t z h
        refine j_aload_n (pc := 284) hX dX10_putBody_284 rfl rfl ?_
        refine j_iload_n (pc := 285) hX dX10_putBody_285 rfl rfl ?_
        refine j_aload_n (pc := 286) hX dX10_putBody_286 rfl rfl ?_
        refine k_getR (pc := 287) (q := 46) hX fl_10_63 dX10_putBody_287 rfl rfl ?_
        refine j_iload_n (pc := 290) hX dX10_putBody_290 rfl rfl ?_
        obtain ⟨hg, h⟩ := gd_some h
        refine k_iald (pc := 291) (x := (c 46 (v1).toNatClampNeg)) hX dX10_putBody_291 rfl hg rfl ?_
        refine j_aload_n (pc := 292) hX dX10_putBody_292 rfl rfl ?_
        refine k_getI (pc := 293) (x := (c 30 22)) hX fl_10_151 dX10_putBody_293 rfl rfl rfl ?_
        refine j_bipush (pc := 296) (v := (-2 : Int32)) hX dX10_putBody_296 (by decide) ?_
        refine j_bipush (pc := 298) (v := (-2 : Int32)) hX dX10_putBody_298 (by decide) ?_
        obtain ⟨r2, c3, h1, h⟩ := bd_some h
        refine k_callVI (pc := 300) (st := [.ref 30]) hX ln_10_190 dX10_putBody_300 (t_m_remade (d := 2) (Nat.le_refl _) h1) rfl rfl rfl (by omega) (Nat.le_of_ble_eq_true rfl) ?_
        obtain ⟨c4, hc, h⟩ := lt_some h
        refine k_putI (pc := 303) (c' := jmix r c4) hX pfl_10_151 dX10_putBody_303 rfl rfl (fun _ => ⟨rfl, rfl⟩) (jmix_me rfl hc) ?_
        refine j_aload_n (pc := 306) hX dX10_putBody_306 rfl rfl ?_
        refine j_dup (pc := 307) hX dX10_putBody_307 rfl ?_
        refine k_getI (pc := 308) (x := (c4 30 14)) hX fl_10_145 dX10_putBody_308 rfl rfl rfl ?_
        refine j_iconst (pc := 311) (v := (1 : Int32)) hX dX10_putBody_311 (by decide) ?_
        refine j_isub (pc := 312) hX dX10_putBody_312 ?_
        obtain ⟨c5, hc, h⟩ := lt_some h
        refine k_putI (pc := 313) (c' := jmix r c5) hX pfl_10_145 dX10_putBody_313 rfl rfl (fun _ => ⟨rfl, rfl⟩) (jmix_me rfl hc) ?_
        obtain ⟨_, h⟩ := Prod.mk.inj (Option.some.inj h)
        subst h
        exact j_vret (pc := 316) hX hE dX10_putBody_316 (Nat.le_refl 0) (Nat.le_refl 0) ⟨rfl, rfl, rfl⟩
      · replace h := ite_f z h
        refine j_aload_n (pc := 258) hX dX10_putBody_258 rfl rfl ?_
        refine j_iload_n (pc := 259) hX dX10_putBody_259 rfl rfl ?_
        refine j_aload_n (pc := 260) hX dX10_putBody_260 rfl rfl ?_
        refine k_getR (pc := 261) (q := 46) hX fl_10_63 dX10_putBody_261 rfl rfl ?_
        refine j_iload_n (pc := 264) hX dX10_putBody_264 rfl rfl ?_
        obtain ⟨hg, h⟩ := gd_some h
        refine k_iald (pc := 265) (x := (c 46 (v1).toNatClampNeg)) hX dX10_putBody_265 rfl hg rfl ?_
        refine j_aload_n (pc := 266) hX dX10_putBody_266 rfl rfl ?_
        refine k_getR (pc := 267) (q := 45) hX fl_10_60 dX10_putBody_267 rfl rfl ?_
        refine j_iload_n (pc := 270) hX dX10_putBody_270 rfl rfl ?_
        obtain ⟨hg, h⟩ := gd_some h
        refine k_iald (pc := 271) (x := (c 45 (v1).toNatClampNeg)) hX dX10_putBody_271 rfl hg rfl ?_
        refine j_aload_n (pc := 272) hX dX10_putBody_272 rfl rfl ?_
        refine k_getI (pc := 273) (x := (c 30 22)) hX fl_10_151 dX10_putBody_273 rfl rfl rfl ?_
        refine j_bipush (pc := 276) (v := (-2 : Int32)) hX dX10_putBody_276 (by decide) ?_
        obtain ⟨r6, c7, h1, h⟩ := bd_some h
        refine k_callVI (pc := 278) (st := [.ref 30]) hX ln_10_190 dX10_putBody_278 (t_m_remade (d := 2) (Nat.le_refl _) h1) rfl rfl rfl (by omega) (Nat.le_of_ble_eq_true rfl) ?_
        refine j_goto (pc := 281) (tgt := 303) hX dX10_putBody_281 (by decide) ?_
        obtain ⟨c8, hc, h⟩ := lt_some h
        refine k_putI (pc := 303) (c' := jmix r c8) hX pfl_10_151 dX10_putBody_303 rfl rfl (fun _ => ⟨rfl, rfl⟩) (jmix_me rfl hc) ?_
        refine j_aload_n (pc := 306) hX dX10_putBody_306 rfl rfl ?_
        refine j_dup (pc := 307) hX dX10_putBody_307 rfl ?_
        refine k_getI (pc := 308) (x := (c8 30 14)) hX fl_10_145 dX10_putBody_308 rfl rfl rfl ?_
        refine j_iconst (pc := 311) (v := (1 : Int32)) hX dX10_putBody_311 (by decide) ?_
        refine j_isub (pc := 312) hX dX10_putBody_312 ?_
        obtain ⟨c9, hc, h⟩ := lt_some h
        refine k_putI (pc := 313) (c' := jmix r c9) hX pfl_10_145 dX10_putBody_313 rfl rfl (fun _ => ⟨rfl, rfl⟩) (jmix_me rfl hc) ?_
        obtain ⟨_, h⟩ := Prod.mk.inj (Option.some.inj h)
        subst h
        exact j_vret (pc := 316) hX hE dX10_putBody_316 (Nat.le_refl 0) (Nat.le_refl 0) ⟨rfl, rfl, rfl⟩
    · replace h := ite_t z h
      refine j_aload_n (pc := 229) hX dX10_putBody_229 rfl rfl ?_
      refine k_getR (pc := 230) (q := 44) hX fl_10_57 dX10_putBody_230 rfl rfl ?_
      refine j_iload_n (pc := 233) hX dX10_putBody_233 rfl rfl ?_
      refine j_bipush (pc := 234) (v := (13 : Int32)) hX dX10_putBody_234 (by decide) ?_
      obtain ⟨hg, h⟩ := gd_some h
      obtain ⟨c10, hc, h⟩ := lt_some h
      refine k_iast (pc := 236) (c' := jmix r c10) hX dX10_putBody_236 rfl hg (jmix_me rfl hc) ?_
      refine j_aload_n (pc := 237) hX dX10_putBody_237 rfl rfl ?_
      refine j_aload_n (pc := 238) hX dX10_putBody_238 rfl rfl ?_
      refine k_getI (pc := 239) (x := (c10 30 22)) hX fl_10_151 dX10_putBody_239 rfl rfl rfl ?_
      refine j_iload (pc := 242) hX dX10_putBody_242 rfl ?_
      refine j_iload (pc := 244) hX dX10_putBody_244 rfl ?_
      obtain ⟨_u, c11, h1, h⟩ := bd_some h
      refine k_callVV (pc := 246) (st := []) hX ln_10_184 dX10_putBody_246 (t_m_pushPut (d := 1) (Nat.le_refl _) h1) rfl rfl rfl (by omega) (Nat.le_of_ble_eq_true rfl) ?_
      refine j_goto (pc := 249) (tgt := 316) hX dX10_putBody_249 (by decide) ?_
      obtain ⟨_, h⟩ := Prod.mk.inj (Option.some.inj h)
      subst h
      exact j_vret (pc := 316) hX hE dX10_putBody_316 (Nat.le_refl 0) (Nat.le_refl 0) ⟨rfl, rfl, rfl⟩
  · replace h := ite_t z h
    refine j_aload_n (pc := 62) hX dX10_putBody_62 rfl rfl ?_
    refine k_getR (pc := 63) (q := 46) hX fl_10_63 dX10_putBody_63 rfl rfl ?_
    refine j_iload_n (pc := 66) hX dX10_putBody_66 rfl rfl ?_
    refine j_iload (pc := 67) hX dX10_putBody_67 rfl ?_
    obtain ⟨hg, h⟩ := gd_some h
    obtain ⟨c12, hc, h⟩ := lt_some h
    refine k_iast (pc := 69) (c' := jmix r c12) hX dX10_putBody_69 rfl hg (jmix_me rfl hc) ?_
    refine j_iload (pc := 70) hX dX10_putBody_70 rfl ?_
    refine j_if_eq (pc := 72) (tgt := 110) hX dX10_putBody_72 (by decide) (fun z => ?_) (fun z => ?_)
    · replace h := ite_t z h
      refine j_sub (lv' := [(0, .ref 30), (1, .int v1), (4, .int v4), (5, .int v5), (7, .int r1), (8, .int (c 37 (v2).toNatClampNeg))]) ⟨rfl, rfl, rfl, rfl, rfl, rfl, trivial⟩ ?_
      exact tj_m_putBody_P110 hX hdp hE _ _ _ _ _ _ h
    · replace h := ite_f z h
      refine j_iload (pc := 75) hX dX10_putBody_75 rfl ?_
      refine j_iload (pc := 77) hX dX10_putBody_77 rfl ?_
      refine j_icmp_eq (pc := 79) (tgt := 93) hX dX10_putBody_79 (by decide) (fun z => ?_) (fun z => ?_)
      · replace h := ite_t z h
        refine j_sub (lv' := [(0, .ref 30), (1, .int v1), (7, .int r1)]) ⟨rfl, rfl, rfl, trivial⟩ ?_
        exact tj_m_putBody_P93 hX hdp hE _ _ _ h
      · replace h := ite_f z h
        refine j_aload_n (pc := 82) hX dX10_putBody_82 rfl rfl ?_
        refine j_iload (pc := 83) hX dX10_putBody_83 rfl ?_
        refine j_iload (pc := 85) hX dX10_putBody_85 rfl ?_
        obtain ⟨r25, h1, h⟩ := ob_some h
        refine k_callVI (pc := 87) (st := []) hX ln_10_141 dX10_putBody_87 (t_m_isFree (d := 0) (Nat.le_refl _) h1) rfl rfl rfl (by omega) (Nat.le_of_ble_eq_true rfl) ?_
        refine j_if_ne (pc := 90) (tgt := 110) hX dX10_putBody_90 (by decide) (fun z => ?_) (fun z => ?_)
        · replace h := ite_f z h
          refine j_sub (lv' := [(0, .ref 30), (1, .int v1), (4, .int v4), (5, .int v5), (7, .int r1), (8, .int (c 37 (v2).toNatClampNeg))]) ⟨rfl, rfl, rfl, rfl, rfl, rfl, trivial⟩ ?_
          exact tj_m_putBody_P110 hX hdp hE _ _ _ _ _ _ h
        · replace h := ite_t z h
          refine j_sub (lv' := [(0, .ref 30), (1, .int v1), (7, .int r1)]) ⟨rfl, rfl, rfl, trivial⟩ ?_
          exact tj_m_putBody_P93 hX hdp hE _ _ _ h
set_option maxHeartbeats 4000000 in
set_option maxRecDepth 100000 in
theorem tj_m_putBody_P31 {X : jX} {d : Nat} {r : jS} {cE : jS} (hX : jOk X RX10 cX10_putBody 10 d) (hdp : 3 ≤ d) (hE : jEnd X none 0 0 (fun r0 n0 h0 => r0 = none ∧ n0 = jN ∧ h0 = jE (jmix r cE))) : ∀ (v1 : Int32) (v2 : Int32) (v3 : Int32) (v4 : Int32) (v5 : Int32) (s0 : Int32) (c : jS), m_putBody_P31 v1 v2 v3 v4 v5 s0 c = some ((), cE) → J X 0 0 jN (jE (jmix r c)) [(0, .ref 30), (1, .int v1), (2, .int v2), (3, .int v3), (4, .int v4), (5, .int v5)] [.int s0] 31 := by
  intro v1 v2 v3 v4 v5 s0 c h
  unfold m_putBody_P31 at h
  refine j_istore (pc := 31) hX dX10_putBody_31 (by decide) (by decide) ?_
  refine j_aload_n (pc := 33) hX dX10_putBody_33 rfl rfl ?_
  refine j_iload_n (pc := 34) hX dX10_putBody_34 rfl rfl ?_
  refine j_iload (pc := 35) hX dX10_putBody_35 rfl ?_
  refine j_if_eq (pc := 37) (tgt := 44) hX dX10_putBody_37 (by decide) (fun z => ?_) (fun z => ?_)
  · replace h := ite_t z h
    refine j_iconst (pc := 44) (v := (0 : Int32)) hX dX10_putBody_44 (by decide) ?_
    refine j_sub (lv' := [(0, .ref 30), (1, .int v1), (2, .int v2), (3, .int v3), (4, .int v4), (5, .int v5), (6, .int s0)]) ⟨rfl, rfl, rfl, rfl, rfl, rfl, rfl, trivial⟩ ?_
    exact tj_m_putBody_P45 hX hdp hE _ _ _ _ _ _ _ _ _ h
  · replace h := ite_f z h
    refine j_iconst (pc := 40) (v := (1 : Int32)) hX dX10_putBody_40 (by decide) ?_
    refine j_goto (pc := 41) (tgt := 45) hX dX10_putBody_41 (by decide) ?_
    refine j_sub (lv' := [(0, .ref 30), (1, .int v1), (2, .int v2), (3, .int v3), (4, .int v4), (5, .int v5), (6, .int s0)]) ⟨rfl, rfl, rfl, rfl, rfl, rfl, rfl, trivial⟩ ?_
    exact tj_m_putBody_P45 hX hdp hE _ _ _ _ _ _ _ _ _ h
set_option maxHeartbeats 4000000 in
set_option maxRecDepth 100000 in
theorem t_m_putBody {l : Launch} {D : va_G} {G : Nat → ClassId} {d : Nat} (hdp : 3 ≤ d) {c r : jS} {a1 : Int32} {a2 : Int32} {a3 : Int32} {cE : jS} (h : m_putBody c a1 a2 a3 = some ((), cE)) : jC l D G d M_m_putBody [.ref 30, .int a1, .int a2, .int a3] (jmix r c) none (jmix r cE) := by
  refine jM_of rfl (Nat.le_of_ble_eq_true rfl) ?_
  intro X hl hD hG _ _ hX hE _
  subst hl hD hG
  unfold m_putBody at h
  show J X 0 0 jN (jE (jmix r c)) [(0, .ref 30), (1, .int a1), (2, .int a2), (3, .int a3)] [] 0
  refine j_aload_n (pc := 0) hX dX10_putBody_0 rfl rfl ?_
  refine k_getR (pc := 1) (q := 48) hX fl_10_69 dX10_putBody_1 rfl rfl ?_
  refine j_iload_n (pc := 4) hX dX10_putBody_4 rfl rfl ?_
  obtain ⟨hg, h⟩ := gd_some h
  refine k_iald (pc := 5) (x := (c 48 (a1).toNatClampNeg)) hX dX10_putBody_5 rfl hg rfl ?_
  refine j_istore (pc := 6) hX dX10_putBody_6 (by decide) (by decide) ?_
  refine j_aload_n (pc := 8) hX dX10_putBody_8 rfl rfl ?_
  refine k_getR (pc := 9) (q := 49) hX fl_10_72 dX10_putBody_9 rfl rfl ?_
  refine j_iload_n (pc := 12) hX dX10_putBody_12 rfl rfl ?_
  obtain ⟨hg, h⟩ := gd_some h
  refine k_iald (pc := 13) (x := (c 49 (a1).toNatClampNeg)) hX dX10_putBody_13 rfl hg rfl ?_
  refine j_istore (pc := 14) hX dX10_putBody_14 (by decide) (by decide) ?_
  refine j_aload_n (pc := 16) hX dX10_putBody_16 rfl rfl ?_
  refine k_getR (pc := 17) (q := 35) hX fl_10_30 dX10_putBody_17 rfl rfl ?_
  refine j_iload_n (pc := 20) hX dX10_putBody_20 rfl rfl ?_
  obtain ⟨hg, h⟩ := gd_some h
  refine k_iald (pc := 21) (x := (c 35 (a2).toNatClampNeg)) hX dX10_putBody_21 rfl hg rfl ?_
  refine j_iconst (pc := 22) (v := (4 : Int32)) hX dX10_putBody_22 (by decide) ?_
  refine j_icmp_ne (pc := 23) (tgt := 30) hX dX10_putBody_23 (by decide) (fun z => ?_) (fun z => ?_)
  · replace h := ite_f z h
    refine j_iconst (pc := 30) (v := (0 : Int32)) hX dX10_putBody_30 (by decide) ?_
    refine j_sub (lv' := [(0, .ref 30), (1, .int a1), (2, .int a2), (3, .int a3), (4, .int (c 48 (a1).toNatClampNeg)), (5, .int (c 49 (a1).toNatClampNeg))]) ⟨rfl, rfl, rfl, rfl, rfl, rfl, trivial⟩ ?_
    exact tj_m_putBody_P31 hX hdp hE _ _ _ _ _ _ _ h
  · replace h := ite_t z h
    refine j_iconst (pc := 26) (v := (1 : Int32)) hX dX10_putBody_26 (by decide) ?_
    refine j_goto (pc := 27) (tgt := 31) hX dX10_putBody_27 (by decide) ?_
    refine j_sub (lv' := [(0, .ref 30), (1, .int a1), (2, .int a2), (3, .int a3), (4, .int (c 48 (a1).toNatClampNeg)), (5, .int (c 49 (a1).toNatClampNeg))]) ⟨rfl, rfl, rfl, rfl, rfl, rfl, trivial⟩ ?_
    exact tj_m_putBody_P31 hX hdp hE _ _ _ _ _ _ _ h

set_option maxHeartbeats 4000000 in
set_option maxRecDepth 100000 in
theorem tj_m_putParts_P62 {X : jX} {d : Nat} {r : jS} {cE : jS} (hX : jOk X RX10 cX10_putParts 5 d) (hdp : 3 ≤ d) (hE : jEnd X none 0 0 (fun r0 n0 h0 => r0 = none ∧ n0 = jN ∧ h0 = jE (jmix r cE))) : ∀ (v1 : Int32) (v2 : Int32) (v3 : Int32) (v4 : Int32) (c : jS), m_putParts_P62 v1 v2 v3 v4 c = some ((), cE) → J X 0 0 jN (jE (jmix r c)) [(0, .ref 30), (1, .int v1), (2, .int v2), (3, .int v3), (4, .int v4)] [] 62 := by
  intro v1 v2 v3 v4 c h
  unfold m_putParts_P62 at h
  refine j_iload_n (pc := 62) hX dX10_putParts_62 rfl rfl ?_
  refine j_iload (pc := 63) hX dX10_putParts_63 rfl ?_
  refine j_icmp_ge (pc := 65) (tgt := 93) hX dX10_putParts_65 (by decide) (fun z => ?_) (fun z => ?_)
  · replace h := ite_t z h
    refine j_aload_n (pc := 93) hX dX10_putParts_93 rfl rfl ?_
    refine j_aload_n (pc := 94) hX dX10_putParts_94 rfl rfl ?_
    refine j_iload_n (pc := 95) hX dX10_putParts_95 rfl rfl ?_
    refine j_aload_n (pc := 96) hX dX10_putParts_96 rfl rfl ?_
    refine k_getR (pc := 97) (q := 37) hX fl_10_36 dX10_putParts_97 rfl rfl ?_
    refine j_iload_n (pc := 100) hX dX10_putParts_100 rfl rfl ?_
    obtain ⟨hg, h⟩ := gd_some h
    refine k_iald (pc := 101) (x := (c 37 (v2).toNatClampNeg)) hX dX10_putParts_101 rfl hg rfl ?_
    refine j_aload_n (pc := 102) hX dX10_putParts_102 rfl rfl ?_
    refine k_getR (pc := 103) (q := 45) hX fl_10_60 dX10_putParts_103 rfl rfl ?_
    refine j_iload_n (pc := 106) hX dX10_putParts_106 rfl rfl ?_
    obtain ⟨hg, h⟩ := gd_some h
    refine k_iald (pc := 107) (x := (c 45 (v1).toNatClampNeg)) hX dX10_putParts_107 rfl hg rfl ?_
    refine j_aload_n (pc := 108) hX dX10_putParts_108 rfl rfl ?_
    refine k_getR (pc := 109) (q := 46) hX fl_10_63 dX10_putParts_109 rfl rfl ?_
    refine j_iload_n (pc := 112) hX dX10_putParts_112 rfl rfl ?_
    obtain ⟨hg, h⟩ := gd_some h
    refine k_iald (pc := 113) (x := (c 46 (v1).toNatClampNeg)) hX dX10_putParts_113 rfl hg rfl ?_
    refine j_aload_n (pc := 114) hX dX10_putParts_114 rfl rfl ?_
    refine k_getR (pc := 115) (q := 47) hX fl_10_66 dX10_putParts_115 rfl rfl ?_
    refine j_iload_n (pc := 118) hX dX10_putParts_118 rfl rfl ?_
    obtain ⟨hg, h⟩ := gd_some h
    refine k_iald (pc := 119) (x := (c 47 (v1).toNatClampNeg)) hX dX10_putParts_119 rfl hg rfl ?_
    obtain ⟨r2, c3, h1, h⟩ := bd_some h
    refine k_callVI (pc := 120) (st := [.ref 30]) hX ln_10_190 dX10_putParts_120 (t_m_remade (d := 2) (Nat.le_refl _) h1) rfl rfl rfl (by omega) (Nat.le_of_ble_eq_true rfl) ?_
    obtain ⟨c4, hc, h⟩ := lt_some h
    refine k_putI (pc := 123) (c' := jmix r c4) hX pfl_10_151 dX10_putParts_123 rfl rfl (fun _ => ⟨rfl, rfl⟩) (jmix_me rfl hc) ?_
    refine j_aload_n (pc := 126) hX dX10_putParts_126 rfl rfl ?_
    refine j_dup (pc := 127) hX dX10_putParts_127 rfl ?_
    refine k_getI (pc := 128) (x := (c4 30 14)) hX fl_10_145 dX10_putParts_128 rfl rfl rfl ?_
    refine j_iconst (pc := 131) (v := (1 : Int32)) hX dX10_putParts_131 (by decide) ?_
    refine j_isub (pc := 132) hX dX10_putParts_132 ?_
    obtain ⟨c5, hc, h⟩ := lt_some h
    refine k_putI (pc := 133) (c' := jmix r c5) hX pfl_10_145 dX10_putParts_133 rfl rfl (fun _ => ⟨rfl, rfl⟩) (jmix_me rfl hc) ?_
    obtain ⟨_, h⟩ := Prod.mk.inj (Option.some.inj h)
    subst h
    exact j_vret (pc := 136) hX hE dX10_putParts_136 (Nat.le_refl 0) (Nat.le_refl 0) ⟨rfl, rfl, rfl⟩
  · replace h := ite_f z h
    refine j_aload_n (pc := 68) hX dX10_putParts_68 rfl rfl ?_
    refine j_aload_n (pc := 69) hX dX10_putParts_69 rfl rfl ?_
    refine j_iload_n (pc := 70) hX dX10_putParts_70 rfl rfl ?_
    refine j_iload_n (pc := 71) hX dX10_putParts_71 rfl rfl ?_
    obtain ⟨r6, h1, h⟩ := ob_some h
    refine k_callVI (pc := 72) (st := [.ref 30]) hX ln_10_126 dX10_putParts_72 (t_m_part (d := 0) (Nat.le_refl _) h1) rfl rfl rfl (by omega) (Nat.le_of_ble_eq_true rfl) ?_
    refine j_aload_n (pc := 75) hX dX10_putParts_75 rfl rfl ?_
    refine k_getR (pc := 76) (q := 48) hX fl_10_69 dX10_putParts_76 rfl rfl ?_
    refine j_iload_n (pc := 79) hX dX10_putParts_79 rfl rfl ?_
    obtain ⟨hg, h⟩ := gd_some h
    refine k_iald (pc := 80) (x := (c 48 (v1).toNatClampNeg)) hX dX10_putParts_80 rfl hg rfl ?_
    refine j_aload_n (pc := 81) hX dX10_putParts_81 rfl rfl ?_
    refine k_getR (pc := 82) (q := 49) hX fl_10_72 dX10_putParts_82 rfl rfl ?_
    refine j_iload_n (pc := 85) hX dX10_putParts_85 rfl rfl ?_
    obtain ⟨hg, h⟩ := gd_some h
    refine k_iald (pc := 86) (x := (c 49 (v1).toNatClampNeg)) hX dX10_putParts_86 rfl hg rfl ?_
    obtain ⟨_u, c7, h1, h⟩ := bd_some h
    refine k_callVV (pc := 87) (st := []) hX ln_10_184 dX10_putParts_87 (t_m_pushPut (d := 1) (Nat.le_refl _) h1) rfl rfl rfl (by omega) (Nat.le_of_ble_eq_true rfl) ?_
    refine j_goto (pc := 90) (tgt := 136) hX dX10_putParts_90 (by decide) ?_
    obtain ⟨_, h⟩ := Prod.mk.inj (Option.some.inj h)
    subst h
    exact j_vret (pc := 136) hX hE dX10_putParts_136 (Nat.le_refl 0) (Nat.le_refl 0) ⟨rfl, rfl, rfl⟩
set_option maxHeartbeats 4000000 in
set_option maxRecDepth 100000 in
theorem t_m_putParts {l : Launch} {D : va_G} {G : Nat → ClassId} {d : Nat} (hdp : 3 ≤ d) {c r : jS} {a1 : Int32} {a2 : Int32} {a3 : Int32} {cE : jS} (h : m_putParts c a1 a2 a3 = some ((), cE)) : jC l D G d M_m_putParts [.ref 30, .int a1, .int a2, .int a3] (jmix r c) none (jmix r cE) := by
  refine jM_of rfl (Nat.le_of_ble_eq_true rfl) ?_
  intro X hl hD hG _ _ hX hE _
  subst hl hD hG
  unfold m_putParts at h
  show J X 0 0 jN (jE (jmix r c)) [(0, .ref 30), (1, .int a1), (2, .int a2), (3, .int a3)] [] 0
  refine j_aload_n (pc := 0) hX dX10_putParts_0 rfl rfl ?_
  refine k_getR (pc := 1) (q := 35) hX fl_10_30 dX10_putParts_1 rfl rfl ?_
  refine j_iload_n (pc := 4) hX dX10_putParts_4 rfl rfl ?_
  obtain ⟨hg, h⟩ := gd_some h
  refine k_iald (pc := 5) (x := (c 35 (a2).toNatClampNeg)) hX dX10_putParts_5 rfl hg rfl ?_
  obtain ⟨r1, h1, h⟩ := ob_some h
  refine k_callSI (pc := 6) (st := []) hX ln_10_122 dX10_putParts_6 (t_m_partsOf (d := 0) (Nat.le_refl _) h1) rfl rfl (by omega) (Nat.le_of_ble_eq_true rfl) ?_
  refine j_istore (pc := 9) hX dX10_putParts_9 (by decide) (by decide) ?_
  refine j_iload_n (pc := 11) hX dX10_putParts_11 rfl rfl ?_
  refine j_iconst (pc := 12) (v := (1 : Int32)) hX dX10_putParts_12 (by decide) ?_
  refine j_icmp_ne (pc := 13) (tgt := 29) hX dX10_putParts_13 (by decide) (fun z => ?_) (fun z => ?_)
  · replace h := ite_f z h
    refine j_iload_n (pc := 29) hX dX10_putParts_29 rfl rfl ?_
    refine j_iconst (pc := 30) (v := (2 : Int32)) hX dX10_putParts_30 (by decide) ?_
    refine j_icmp_ne (pc := 31) (tgt := 47) hX dX10_putParts_31 (by decide) (fun z => ?_) (fun z => ?_)
    · replace h := ite_f z h
      refine j_iload_n (pc := 47) hX dX10_putParts_47 rfl rfl ?_
      refine j_iconst (pc := 48) (v := (3 : Int32)) hX dX10_putParts_48 (by decide) ?_
      refine j_icmp_ne (pc := 49) (tgt := 62) hX dX10_putParts_49 (by decide) (fun z => ?_) (fun z => ?_)
      · replace h := ite_f z h
        refine j_sub (lv' := [(0, .ref 30), (1, .int a1), (2, .int a2), (3, .int a3), (4, .int r1)]) ⟨rfl, rfl, rfl, rfl, rfl, trivial⟩ ?_
        exact tj_m_putParts_P62 hX hdp hE _ _ _ _ _ h
      · replace h := ite_t z h
        refine j_aload_n (pc := 52) hX dX10_putParts_52 rfl rfl ?_
        refine k_getR (pc := 53) (q := 47) hX fl_10_66 dX10_putParts_53 rfl rfl ?_
        refine j_iload_n (pc := 56) hX dX10_putParts_56 rfl rfl ?_
        refine j_aload_n (pc := 57) hX dX10_putParts_57 rfl rfl ?_
        refine k_getI (pc := 58) (x := (c 30 22)) hX fl_10_151 dX10_putParts_58 rfl rfl rfl ?_
        obtain ⟨hg, h⟩ := gd_some h
        obtain ⟨c8, hc, h⟩ := lt_some h
        refine k_iast (pc := 61) (c' := jmix r c8) hX dX10_putParts_61 rfl hg (jmix_me rfl hc) ?_
        refine j_sub (lv' := [(0, .ref 30), (1, .int a1), (2, .int a2), (3, .int a3), (4, .int r1)]) ⟨rfl, rfl, rfl, rfl, rfl, trivial⟩ ?_
        exact tj_m_putParts_P62 hX hdp hE _ _ _ _ _ h
    · replace h := ite_t z h
      refine j_aload_n (pc := 34) hX dX10_putParts_34 rfl rfl ?_
      refine k_getR (pc := 35) (q := 46) hX fl_10_63 dX10_putParts_35 rfl rfl ?_
      refine j_iload_n (pc := 38) hX dX10_putParts_38 rfl rfl ?_
      refine j_aload_n (pc := 39) hX dX10_putParts_39 rfl rfl ?_
      refine k_getI (pc := 40) (x := (c 30 22)) hX fl_10_151 dX10_putParts_40 rfl rfl rfl ?_
      obtain ⟨hg, h⟩ := gd_some h
      obtain ⟨c9, hc, h⟩ := lt_some h
      refine k_iast (pc := 43) (c' := jmix r c9) hX dX10_putParts_43 rfl hg (jmix_me rfl hc) ?_
      refine j_goto (pc := 44) (tgt := 62) hX dX10_putParts_44 (by decide) ?_
      refine j_sub (lv' := [(0, .ref 30), (1, .int a1), (2, .int a2), (3, .int a3), (4, .int r1)]) ⟨rfl, rfl, rfl, rfl, rfl, trivial⟩ ?_
      exact tj_m_putParts_P62 hX hdp hE _ _ _ _ _ h
  · replace h := ite_t z h
    refine j_aload_n (pc := 16) hX dX10_putParts_16 rfl rfl ?_
    refine k_getR (pc := 17) (q := 45) hX fl_10_60 dX10_putParts_17 rfl rfl ?_
    refine j_iload_n (pc := 20) hX dX10_putParts_20 rfl rfl ?_
    refine j_aload_n (pc := 21) hX dX10_putParts_21 rfl rfl ?_
    refine k_getI (pc := 22) (x := (c 30 22)) hX fl_10_151 dX10_putParts_22 rfl rfl rfl ?_
    obtain ⟨hg, h⟩ := gd_some h
    obtain ⟨c10, hc, h⟩ := lt_some h
    refine k_iast (pc := 25) (c' := jmix r c10) hX dX10_putParts_25 rfl hg (jmix_me rfl hc) ?_
    refine j_goto (pc := 26) (tgt := 62) hX dX10_putParts_26 (by decide) ?_
    refine j_sub (lv' := [(0, .ref 30), (1, .int a1), (2, .int a2), (3, .int a3), (4, .int r1)]) ⟨rfl, rfl, rfl, rfl, rfl, trivial⟩ ?_
    exact tj_m_putParts_P62 hX hdp hE _ _ _ _ _ h

