theorem same_m {f : Nat} {c : jS} {lev : Int32} (hf : 1 ≤ f) : xComparer_same f c (-2) (-2) lev = some (b2 true, c) := by
  obtain ⟨f, rfl⟩ : ∃ f', f = f' + 1 := ⟨f - 1, by omega⟩
  rw [xComparer_same_s]
  unfold b_xComparer_same
  rw [x_kindOf_m, ob_s, ob_s, if_pos rfl, x_sizeOf_m, ob_s, ob_s, if_pos rfl, if_neg (by decide), if_neg (by decide), if_neg (by decide), if_neg (by decide), if_neg (by decide), if_neg (by decide), if_neg (by decide)]
  rfl
noncomputable def blk3 (F : jS → Int32 → Int32 → Int32 → Option (Int32 × jS)) (c : jS) (a1 a2 a3 : Int32) : Option (Int32 × jS) :=
  ob (xTerms_firstOf c a1) (fun r16 =>
        ob (xTerms_firstOf c a2) (fun r17 =>
        bd (F c r16 r17 a3) (fun r18 c19 =>
        if r18 = 0 then (
          some ((0 : Int32), c19))
        else (
          ob (xTerms_secondOf c19 a1) (fun r20 =>
          ob (xTerms_secondOf c19 a2) (fun r21 =>
          bd (F c19 r20 r21 a3) (fun r22 c23 =>
          if r22 = 0 then (
            some ((0 : Int32), c23))
          else (
            ob (xTerms_thirdOf c23 a1) (fun r24 =>
            ob (xTerms_thirdOf c23 a2) (fun r25 =>
            bd (F c23 r24 r25 a3) (fun r26 c27 =>
            if r26 = 0 then (
              some ((0 : Int32), c27))
            else (
              some ((1 : Int32), c27)))))))))))))
theorem blk_ok {F : jS → Int32 → Int32 → Int32 → Option (Int32 × jS)} {c : jS} {a1 a2 a3 p p' q q' s s' : Int32} {A B C : Bool} (f1 : xTerms_firstOf c a1 = some p) (f1' : xTerms_firstOf c a2 = some p') (f2 : xTerms_secondOf c a1 = some q) (f2' : xTerms_secondOf c a2 = some q') (f3 : xTerms_thirdOf c a1 = some s) (f3' : xTerms_thirdOf c a2 = some s') (hA : F c p p' a3 = some (b2 A, c)) (hB : F c q q' a3 = some (b2 B, c)) (hC : F c s s' a3 = some (b2 C, c)) : blk3 F c a1 a2 a3 = some (b2 (A && (B && C)), c) := by
  unfold blk3
  rw [f1, ob_s, f1', ob_s, hA, bd_s]
  cases A with
  | false => rw [if_pos b2_f]; rfl
  | true =>
    rw [if_neg (by decide), f2, ob_s, f2', ob_s, hB, bd_s]
    cases B with
    | false => rw [if_pos b2_f]; rfl
    | true =>
      rw [if_neg (by decide), f3, ob_s, f3', ob_s, hC, bd_s]
      cases C with
      | false => rw [if_pos b2_f]; rfl
      | true => rw [if_neg (by decide)]; rfl
theorem b2_if {c : jS} {A : Bool} : (if b2 A = 0 then some ((0 : Int32), c) else some ((1 : Int32), c)) = some (b2 A, c) := by
  cases A with
  | false => rw [if_pos b2_f]; rfl
  | true => rw [if_neg (by decide)]; rfl
theorem under_ok {f n t u x y b b' lev : Nat} {c : jS} {B : Bool} (h5 : c 5 12 = nI n) (h4 : n ≤ 400) (ht : t < n) (hu : u < n) (hx : x < 26) (hy : y < 26) (c8 : c 8 t = nI x) (c8' : c 8 u = nI y) (hB : xComparer_same f (su (su c 21 x (nI lev)) 22 y (nI lev)) (nI b) (nI b') (nI (lev + 1)) = some (b2 B, su (su c 21 x (nI lev)) 22 y (nI lev))) :
    xComparer_sameUnder (f + 1) c (nI t) (nI b) (nI u) (nI b') (nI lev) = some (b2 B, c) := by
  rw [xComparer_sameUnder_s]
  unfold b_xComparer_sameUnder
  rw [x_letterOf_t h5 h4 ht, ob_s, x_letterOf_t h5 h4 hu, ob_s, c8, c8', x_isL_t hx, ob_s, if_neg n10, x_isL_t hy, ob_s, if_neg n10, gd_t (ix_nI hx (by decide)), gd_t (ix_nI hy (by decide)), gd_t (ix_nI hx (by decide)), ltS, gd_t (ix_nI hy (by decide)), ltS, nI_clamp (show x < 2 ^ 31 by omega), nI_clamp (show y < 2 ^ 31 by omega), nI_1, hB, bd_s, gd_t (ix_nI hx (by decide)), ltS, gd_t (ix_nI hy (by decide)), ltS, gd_t (bz_b2 B)]
  congr 2
  funext p i
  by_cases h22 : p = 22
  · subst h22
    rw [su_row]
    by_cases hi : i = y
    · subst hi; rw [upd_s]
    · rw [upd_n hi, su_ne (by omega), su_row, upd_n hi, su_ne (by omega)]
  · rw [su_ne h22]
    by_cases h21 : p = 21
    · subst h21
      rw [su_row]
      by_cases hi : i = x
      · subst hi; rw [upd_s]
      · rw [upd_n hi, su_ne (by omega), su_row, upd_n hi]
    · rw [su_ne h21, su_ne h22, su_ne h21]
set_option maxHeartbeats 1000000 in
theorem same_ok {c0 r0 : jS} {T n : Nat} (hM : Tm c0 r0 T n) : ∀ (d f t u lev : Nat) (c : jS), (∀ p, p ≠ 21 → p ≠ 22 → c p = c0 p) → t < n → u < n → dpN c0 t ≤ d → 2 * d ≤ f → xComparer_same f c (nI t) (nI u) (nI lev) = some (b2 (lk c0 d (c 21) (c 22) lev t u), c)
  | 0, f, t, u, lev, c, hc, ht, hu, hd, hf => absurd (dp_pos hM ht) (by omega)
  | d + 1, f, t, u, lev, c, hc, ht, hu, hd, hf => by
    obtain ⟨f, rfl⟩ : ∃ f', f = f' + 2 := ⟨f - 2, by omega⟩
    have h4 := hM.2.2.1
    have h5 : c 5 12 = nI n := by rw [hc 5 (by omega) (by omega)]; exact hM.1
    have g : ∀ p i, p ≠ 21 → p ≠ 22 → c p i = c0 p i := fun p i h1 h2 => by rw [hc p h1 h2]
    rw [xComparer_same_s]
    unfold b_xComparer_same
    rw [x_kindOf_t h5 h4 ht, ob_s, x_kindOf_t h5 h4 hu, ob_s, g 6 t (by omega) (by omega), g 6 u (by omega) (by omega)]
    by_cases h6 : c0 6 t = c0 6 u
    · rw [if_pos h6, x_sizeOf_t h5 h4 ht, ob_s, x_sizeOf_t h5 h4 hu, ob_s, g 13 t (by omega) (by omega), g 13 u (by omega) (by omega)]
      by_cases hz : c0 13 t = c0 13 u
      · rw [if_pos hz]
        refine two_cases hM ht hu h6 ?_ ?_ ?_ ?_ ?_ ?_
        · intro c6 c6' q1 q2 q3 q4
          rw [lk_k0 c6 c6', c6, if_pos (by decide), x_numberOf_t h5 h4 ht, ob_s, x_numberOf_t h5 h4 hu, ob_s, g 7 t (by omega) (by omega), g 7 u (by omega) (by omega)]
          by_cases h : c0 7 t = c0 7 u
          · rw [if_pos h, decide_eq_true h]; rfl
          · rw [if_neg h, decide_eq_false h]; rfl
        · intro x y hx hy c6 c6' c8 c8' q1 q2 q3 q4
          rw [lk_k1 c6 c6' c8 c8' hx hy, c6, if_neg (by decide), if_pos (by decide), x_letterOf_t h5 h4 ht, ob_s, x_letterOf_t h5 h4 hu, ob_s, g 8 t (by omega) (by omega), g 8 u (by omega) (by omega), c8, c8']
          have e : xComparer_sameName c (nI x) (nI y) = some (b2 (decide (c 21 x = c 22 y) && (decide (c 21 x ≠ -2) || decide (nI x = nI y)))) := by
            unfold xComparer_sameName
            rw [x_isL_t hx, ob_s, if_neg n10, x_isL_t hy, ob_s, if_neg n10, gd_t (ix_nI hx (by decide)), gd_t (ix_nI hy (by decide)), nI_clamp (show x < 2 ^ 31 by omega), nI_clamp (show y < 2 ^ 31 by omega)]
            by_cases h1 : c 21 x = c 22 y
            · rw [if_pos h1, gd_t (ix_nI hx (by decide)), decide_eq_true h1]
              by_cases h2 : c 21 x = -2
              · rw [if_pos h2, decide_eq_false (p := c 21 x ≠ -2) (fun q => q h2)]
                by_cases h3 : nI x = nI y
                · rw [if_pos h3, decide_eq_true h3]; rfl
                · rw [if_neg h3, decide_eq_false h3]; rfl
              · rw [if_neg h2, decide_eq_true (p := c 21 x ≠ -2) h2]; rfl
            · rw [if_neg h1, decide_eq_false h1]; rfl
          rw [e, ob_s, gd_t (bz_b2 _)]
        · intro x y a b hx hy ha hb c6 c6' c8 c8' c10 c10' q1 q2 q3 q4
          rw [lk_k2 c6 c6' c8 c8' hx hy c10 c10' (by omega) (by omega), c6, if_neg (by decide), if_neg (by decide), if_pos (by decide), x_typeOf_t h5 h4 ht, ob_s, x_typeOf_t h5 h4 hu, ob_s, g 9 t (by omega) (by omega), g 9 u (by omega) (by omega)]
          by_cases h : c0 9 t = c0 9 u
          · rw [if_pos h, decide_eq_true h, x_firstOf_t h5 h4 ht, ob_s, x_firstOf_t h5 h4 hu, ob_s, g 10 t (by omega) (by omega), g 10 u (by omega) (by omega), c10, c10']
            have ih := same_ok hM d f a b (lev + 1) (su (su c 21 x (nI lev)) 22 y (nI lev)) (fun p h1 h2 => by rw [su_ne h2, su_ne h1]; exact hc p h1 h2) (by omega) (by omega) (by omega) (by omega)
            rw [under_ok h5 h4 ht hu hx hy ((g 8 t (by omega) (by omega)).trans c8) ((g 8 u (by omega) (by omega)).trans c8') ih, bd_s, b2_if]
            rfl
          · rw [if_neg h, decide_eq_false h]; rfl
        · intro x y a b a' b' hx hy ha hb ha' hb' c6 c6' c8 c8' c10 c11 c10' c11' q1 q2 q3 q4
          have ih1 := same_ok hM d (f + 1) a a' lev c hc (by omega) (by omega) (by omega) (by omega)
          have ih2 := same_ok hM d f b b' (lev + 1) (su (su c 21 x (nI lev)) 22 y (nI lev)) (fun p h1 h2 => by rw [su_ne h2, su_ne h1]; exact hc p h1 h2) (by omega) (by omega) (by omega) (by omega)
          rw [lk_k4 c6 c6' c8 c8' hx hy c10 c10' c11 c11' (by omega) (by omega) (by omega) (by omega), c6, if_neg (by decide), if_neg (by decide), if_neg (by decide), if_neg (by decide), if_pos (by decide), x_firstOf_t h5 h4 ht, ob_s, x_firstOf_t h5 h4 hu, ob_s, g 10 t (by omega) (by omega), g 10 u (by omega) (by omega), c10, c10', ih1, bd_s]
          cases hA : lk c0 d (c 21) (c 22) lev a a' with
          | false => rw [if_pos b2_f]; rfl
          | true =>
            rw [if_neg (by decide), x_secondOf_t h5 h4 ht, ob_s, x_secondOf_t h5 h4 hu, ob_s, g 11 t (by omega) (by omega), g 11 u (by omega) (by omega), c11, c11', under_ok h5 h4 ht hu hx hy ((g 8 t (by omega) (by omega)).trans c8) ((g 8 u (by omega) (by omega)).trans c8') ih2, bd_s, b2_if]
            rfl
        · intro k a b a' b' hk ha hb ha' hb' c6 c6' c10 c11 c12 c10' c11' c12' q1 q2 q3 q4
          have ih1 := same_ok hM d (f + 1) a a' lev c hc (by omega) (by omega) (by omega) (by omega)
          have ih2 := same_ok hM d (f + 1) b b' lev c hc (by omega) (by omega) (by omega) (by omega)
          have B := blk_ok (F := xComparer_same (f + 1)) (a1 := nI t) (a2 := nI u) (by rw [x_firstOf_t h5 h4 ht, g 10 t (by omega) (by omega), c10]) (by rw [x_firstOf_t h5 h4 hu, g 10 u (by omega) (by omega), c10']) (by rw [x_secondOf_t h5 h4 ht, g 11 t (by omega) (by omega), c11]) (by rw [x_secondOf_t h5 h4 hu, g 11 u (by omega) (by omega), c11']) (by rw [x_thirdOf_t h5 h4 ht, g 12 t (by omega) (by omega), c12]) (by rw [x_thirdOf_t h5 h4 hu, g 12 u (by omega) (by omega), c12']) ih1 ih2 (same_m (by omega))
          rw [lk_k35 hk c6 c6' c10 c10' c11 c11' (by omega) (by omega) (by omega) (by omega), c6, ← B]
          rcases hk with rfl | rfl
          · rw [if_neg (by decide), if_neg (by decide), if_neg (by decide), if_pos (by decide)]
            rfl
          · rw [if_neg (by decide), if_neg (by decide), if_neg (by decide), if_neg (by decide), if_neg (by decide), if_pos (by decide)]
            rfl
        · intro a b e a' b' e' ha hb he ha' hb' he' c6 c6' c10 c11 c12 c10' c11' c12' q1 q2 q3 q4
          have ih1 := same_ok hM d (f + 1) a a' lev c hc (by omega) (by omega) (by omega) (by omega)
          have ih2 := same_ok hM d (f + 1) b b' lev c hc (by omega) (by omega) (by omega) (by omega)
          have ih3 := same_ok hM d (f + 1) e e' lev c hc (by omega) (by omega) (by omega) (by omega)
          have B := blk_ok (F := xComparer_same (f + 1)) (a1 := nI t) (a2 := nI u) (by rw [x_firstOf_t h5 h4 ht, g 10 t (by omega) (by omega), c10]) (by rw [x_firstOf_t h5 h4 hu, g 10 u (by omega) (by omega), c10']) (by rw [x_secondOf_t h5 h4 ht, g 11 t (by omega) (by omega), c11]) (by rw [x_secondOf_t h5 h4 hu, g 11 u (by omega) (by omega), c11']) (by rw [x_thirdOf_t h5 h4 ht, g 12 t (by omega) (by omega), c12]) (by rw [x_thirdOf_t h5 h4 hu, g 12 u (by omega) (by omega), c12']) ih1 ih2 ih3
          rw [lk_k6 c6 c6' c10 c10' c11 c11' c12 c12' (by omega) (by omega) (by omega) (by omega) (by omega) (by omega), c6, ← B, if_neg (by decide), if_neg (by decide), if_neg (by decide), if_neg (by decide), if_neg (by decide), if_neg (by decide), if_pos (by decide)]
          rfl
      · rw [if_neg hz]
        cases hL : lk c0 (d + 1) (c 21) (c 22) lev t u with
        | false => rfl
        | true =>
          have e := (lk_size hM _ _ _ _ _ _ ht hu hL).1
          have z1 := (hM.2.2.2 t ht).1.2.1.1
          have z2 := (hM.2.2.2 u hu).1.2.1.1
          rw [z1, z2, e] at hz
          exact absurd rfl hz
    · rw [if_neg h6, lk_ne h6]
      rfl
