theorem x_isFree {c r : jS} {T n t x : Nat} (hM : Tm c r T n) (ht : t < n) (hx : x < 26) : xTerms_isFree c (nI t) (nI x) = some (if 0 < frN r t x then 1 else 0) := by
  unfold xTerms_isFree
  have hb := ((hM.2.2.2 t ht).1.2.2.1 x hx).2.2
  rw [x_freeLettersOf_t hM.1 hM.2.2.1 ht, ob_s, x_bit_t hx, ob_s]
  by_cases h : 0 < frN r t x
  · rw [if_pos h, if_neg]
    rw [tb_free hx, hb]
    simp [h]
  · rw [if_neg h, if_pos]
    rw [tb_free hx, hb]
    simp [h]
theorem x_isFree_m {c : jS} {x : Nat} (hx : x < 26) : xTerms_isFree c (-2) (nI x) = some 0 := by
  unfold xTerms_isFree
  rw [x_freeLettersOf_m, ob_s, x_bit_t hx, ob_s, if_pos]
  rw [tb_free hx, tb_0]
theorem dp_pos {c r : jS} {T n t : Nat} (hM : Tm c r T n) (ht : t < n) : 1 ≤ dpN c t := by
  obtain ⟨-, k, lx, ty, oa, ob, od, -, -, ⟨-, h⟩, -⟩ := hM.2.2.2 t ht
  omega
theorem uses_ok {c r : jS} {T n x : Nat} (hM : Tm c r T n) (hx : x < 26) : ∀ (f t : Nat), t < n → dpN c t ≤ f → xTerms_usesOf f c (nI t) (nI x) = some (nI (frN r t x))
  | 0, t, ht, hd => absurd (dp_pos hM ht) (by omega)
  | f + 1, t, ht, hd => by
    obtain ⟨hC, k, lx, ty, oa, ob', od, hN⟩ := hM.2.2.2 t ht
    obtain ⟨hs, ⟨c6, c8, c9, c10, c11, c12, -⟩, ⟨-, hdp⟩, hfr, -⟩ := hN
    obtain ⟨hk7, -, hlx, -, hoa, hob, hod⟩ := id hs
    have hp : ∀ o : Option Nat, lo t o → oz (dpN c) o ≤ f → 1 ≤ f → xTerms_usesOf f c (pv o) (nI x) = some (nI (oz (fun p => frN r p x) o)) := by
      intro o ho hof hf
      cases o with
      | none =>
        obtain ⟨f', rfl⟩ : ∃ f', f = f' + 1 := ⟨f - 1, by omega⟩
        rw [xTerms_usesOf_s]
        unfold b_xTerms_usesOf
        rw [show pv none = (-2 : Int32) from rfl, x_isFree_m hx, ob_s, if_pos rfl]
        rfl
      | some p => exact uses_ok hM hx f p (Nat.lt_trans (ho p rfl) ht) hof
    rw [xTerms_usesOf_s]
    unfold b_xTerms_usesOf
    rw [x_isFree hM ht hx, ob_s]
    by_cases h0 : 0 < frN r t x
    · rw [if_pos h0, if_neg n10, x_kindOf_t hM.1 hM.2.2.1 ht, ob_s, ob_s, c6, x_letterOf_t hM.1 hM.2.2.1 ht, ob_s, c8, x_firstOf_t hM.1 hM.2.2.1 ht, ob_s, c10]
      have hq := hfr x hx
      have e4 : (nI k = (4 : Int32)) ↔ k = 4 := nI_eq (b := 4) (by omega) (by decide)
      have e1 : (nI k = (1 : Int32)) ↔ k = 1 := nI_eq (b := 1) (by omega) (by decide)
      have el : (pv lx = nI x) ↔ lx = some x := ⟨fun e => (nI_pv hx hlx).mp e.symm, fun e => ((nI_pv hx hlx).mpr e).symm⟩
      have hP : k ≠ 0 → k ≠ 1 → frq k lx x (oz (fun p => frN r p x) oa) (oz (fun p => frN r p x) ob') (oz (fun p => frN r p x) od) = oz (fun p => frN r p x) oa + oz (fun p => frN r p x) ob' + oz (fun p => frN r p x) od → xTerms_usesOf_P51 (xTerms_usesOf f) (nI t) (nI x) c = some (nI (frN r t x)) := by
        intro k0 k1 hh
        have hf : 1 ≤ f := by
          have : 1 ≤ oz (dpN c) oa := by
            rcases shp_cases hs with ⟨rfl, h⟩ | ⟨rfl, h⟩ | ⟨rfl, x', y', a, q1, q2, q3, q4, q5, rfl, -⟩ | ⟨rfl, a, b, q1, q2, q3, q4, rfl, -⟩ | ⟨rfl, x', a, b, q1, q2, q3, q4, q5, rfl, -⟩ | ⟨rfl, a, b, q1, q2, q3, q4, rfl, -⟩ | ⟨rfl, a, b, d, q1, q2, q3, q4, q5, rfl, -⟩
            · omega
            · omega
            · exact dp_pos hM (by omega)
            · exact dp_pos hM (by omega)
            · exact dp_pos hM (by omega)
            · exact dp_pos hM (by omega)
            · exact dp_pos hM (by omega)
          omega
        unfold xTerms_usesOf_P51
        rw [x_firstOf_t hM.1 hM.2.2.1 ht, ob_s, c10, hp oa hoa (by omega) hf, ob_s, x_secondOf_t hM.1 hM.2.2.1 ht, ob_s, c11, hp ob' hob (by omega) hf, ob_s, x_thirdOf_t hM.1 hM.2.2.1 ht, ob_s, c12, hp od hod (by omega) hf, ob_s, nI_add, nI_add, hq, hh]
      by_cases k1 : k = 1
      · subst k1
        rw [if_pos (e1.mpr rfl), hq]
        have : lx = some x := by
          rw [hq] at h0
          unfold frq at h0
          by_cases hl : lx = some x
          · exact hl
          · simp [hl] at h0
        unfold frq
        rw [if_pos rfl, if_pos this]
        rfl
      · rw [if_neg (fun e => k1 (e1.mp e))]
        by_cases k4 : k = 4
        · subst k4
          rw [if_pos (e4.mpr rfl)]
          by_cases hl : lx = some x
          · rw [if_pos (el.mpr hl), hp oa hoa (by omega) (by
              rcases shp_cases hs with ⟨q, -⟩ | ⟨q, -⟩ | ⟨q, -⟩ | ⟨q, -⟩ | ⟨-, x', a, b, q1, q2, q3, q4, q5, rfl, -⟩ | ⟨q, -⟩ | ⟨q, -⟩
              · omega
              · omega
              · omega
              · omega
              · have := dp_pos hM (t := a) (by omega)
                have h2 : oz (dpN c) (some a) = dpN c a := rfl
                omega
              · omega
              · omega), ob_s, hq]
            unfold frq
            rw [if_neg (by decide), if_neg (by decide), if_pos rfl, if_pos hl]
            rfl
          · rw [if_neg (fun e => hl (el.mp e))]
            refine hP (by decide) (by decide) ?_
            unfold frq
            rw [if_neg (by decide), if_neg (by decide), if_pos rfl, if_neg hl]
            rcases shp_cases hs with ⟨q, -⟩ | ⟨q, -⟩ | ⟨q, -⟩ | ⟨q, -⟩ | ⟨-, x', a, b, q1, q2, q3, q4, q5, q6, q7, rfl⟩ | ⟨q, -⟩ | ⟨q, -⟩ <;> first | omega | rfl
        · rw [if_neg (fun e => k4 (e4.mp e))]
          have k0 : k ≠ 0 := by
            intro k0
            subst k0
            rcases shp_cases hs with ⟨-, -, -, rfl, rfl, rfl⟩ | ⟨q, -⟩ | ⟨q, -⟩ | ⟨q, -⟩ | ⟨q, -⟩ | ⟨q, -⟩ | ⟨q, -⟩
            · rw [hq] at h0
              simp [frq, oz] at h0
            all_goals omega
          refine hP k0 k1 ?_
          by_cases k2 : k = 2
          · subst k2
            have hl : ¬ lx = some x := by
              intro hl
              rw [hq] at h0
              simp [frq, hl] at h0
            rcases shp_cases hs with ⟨q, -⟩ | ⟨q, -⟩ | ⟨-, x', y', a, q1, q2, q3, q4, q5, q6, rfl, rfl⟩ | ⟨q, -⟩ | ⟨q, -⟩ | ⟨q, -⟩ | ⟨q, -⟩
            · omega
            · omega
            · unfold frq
              rw [if_neg (by decide), if_pos rfl, if_neg hl]
              rfl
            all_goals omega
          · unfold frq
            rw [if_neg k1, if_neg k2, if_neg k4]
    · rw [if_neg h0, if_pos rfl, show frN r t x = 0 by omega]
      rfl
theorem op_uses : Op_uses Inv := by
  intro c r a1 a2 hI
  obtain ⟨T, n, hT, hM, hO⟩ := id hI
  unfold xc_uses m_uses
  rcases term_cases hM.1 hM.2.1 hM.2.2.1 a1 with ⟨t, ht, rfl, e1, e2⟩ | ⟨e1, e2⟩
  · rcases letter_cases (c := c) (r := r) a2 with ⟨x, hx, rfl, e3, e4⟩ | ⟨e3, e4⟩
    · have hC := (hM.2.2.2 t ht).1
      have h4 := hM.2.2.1
      refine ⟨nI (frN r t x), ?_, ?_, hI⟩
      · have hd := hC.2.1.2.2.2.1
        rw [e1, ob_s, if_neg n10, e3, ob_s, if_neg n10, uses_ok hM hx 130 t ht (by omega), ob_s]
      · unfold m_freeOf
        rw [e2, ob_s, if_neg n10, e4, ob_s, if_neg n10, ad26, gd_t (ix_nI (by omega) (by decide)), ob_s, nI_clamp (by omega), (hC.2.2.1 x hx).1]
    · exact ⟨-1, by rw [e1, ob_s, if_neg n10, e3, ob_s, if_pos rfl], by rw [e2, ob_s, if_neg n10, e4, ob_s, if_pos rfl], hI⟩
  · exact ⟨-1, by rw [e1, ob_s, if_pos rfl], by rw [e2, ob_s, if_pos rfl], hI⟩
theorem m_isFr {c r : jS} {T n t x : Nat} (hM : Tm c r T n) (ht : t < n) (hx : x < 26) : m_isFree r (nI t) (nI x) = some (if 0 < frN r t x then 1 else 0) := by
  have h4 := hM.2.2.1
  have hC := (hM.2.2.2 t ht).1
  have hb := hC.2.2.1 x hx
  have hs := hC.2.1.2.1
  unfold m_isFree
  rw [ad26, gd_t (ix_nI (by omega) (by decide)), nI_clamp (by omega), hb.1]
  by_cases h : 0 < frN r t x
  · rw [if_pos h, if_neg (nI_nle h (by omega))]
  · rw [if_neg h, if_pos (show nI (frN r t x) ≤ 0 from by rw [show frN r t x = 0 by omega]; decide)]
theorem free_L {c r : jS} {T n t : Nat} (hM : Tm c r T n) (ht : t < n) : ∀ (k y : Nat) (s : Int32), y + k = 26 → (∀ z, tb s z = (decide (z < y) && tb (c 15 t) z)) → m_free_L14 (nI t) s (nI y) r = some (c 15 t)
  | 0, y, s, h, hs => by
    have hy : y = 26 := by omega
    subst hy
    have e : s = c 15 t := by
      refine Int32.toBitVec.inj (BitVec.eq_of_getLsbD_eq (fun i hi => ?_))
      show tb s i = tb (c 15 t) i
      rw [hs i]
      by_cases h26 : i < 26
      · simp [h26]
      · rw [(hM.2.2.2 t ht).1.2.2.2 i (by omega)]
        simp
    rw [← e]
    unfold m_free_L14
    refine lp_inr ?_
    show m_free_S14 (nI t) s (nI 26) r = _
    unfold m_free_S14
    rw [if_pos (show (26 : Int32) ≤ nI 26 from nI_le (Nat.le_refl _) (by decide))]
  | k + 1, y, s, h, hs => by
    have hy : y < 26 := by omega
    have hb := ((hM.2.2.2 t ht).1.2.2.1 y hy).2.2
    have hn : ¬ (26 : Int32) ≤ nI y := nI_ge (b := 26) hy (by decide)
    by_cases h0 : 0 < frN r t y
    · have ih := free_L hM ht k (y + 1) (s + ((1 : Int32) <<< (nI y &&& 31))) (by omega) (fun z => ?_)
      · rw [← ih]
        unfold m_free_L14
        refine lp_inl ?_
        show m_free_S14 (nI t) s (nI y) r = _
        unfold m_free_S14
        rw [if_neg hn, m_isFr hM ht hy, ob_s, if_pos h0, if_neg n10, nI_1]
      · have ho : s + ((1 : Int32) <<< (nI y &&& 31)) = s ||| ((1 : Int32) <<< (nI y &&& 31)) := by
          refine Int32.toBitVec.inj ?_
          rw [Int32.toBitVec_add, Int32.toBitVec_or]
          refine BitVec.add_eq_or_of_and_eq_zero _ _ (BitVec.eq_of_getLsbD_eq (fun i hi => ?_))
          have hz : tb (s &&& ((1 : Int32) <<< (nI y &&& 31))) i = tb 0 i := by
            rw [tb_and, tb_bit y hy i hi, tb_0, hs i]
            by_cases hiy : i = y
            · subst hiy; simp
            · simp [hiy]
          exact hz
        rw [ho, tb_or]
        by_cases hz : z < 32
        · rw [tb_bit y hy z hz, hs z]
          by_cases hzy : z = y
          · subst hzy
            rw [hb]
            simp [h0]
          · by_cases h1 : z < y
            · have h2 : z < y + 1 := by omega
              simp [h1, h2, hzy]
            · have h2 : ¬ z < y + 1 := by omega
              simp [h1, h2, hzy]
        · rw [tb_hi _ (by omega), tb_hi _ (by omega), tb_hi (c 15 t) (by omega)]
          simp
    · have ih := free_L hM ht k (y + 1) s (by omega) (fun z => ?_)
      · rw [← ih]
        unfold m_free_L14
        refine lp_inl ?_
        show m_free_S14 (nI t) s (nI y) r = _
        unfold m_free_S14
        rw [if_neg hn, m_isFr hM ht hy, ob_s, if_neg h0, if_pos rfl, nI_1, Int32.add_zero]
      · rw [hs z]
        by_cases hzy : z = y
        · subst hzy
          rw [hb]
          simp [h0]
        · by_cases h1 : z < y
          · have h2 : z < y + 1 := by omega
            simp [h1, h2]
          · have h2 : ¬ z < y + 1 := by omega
            simp [h1, h2]
theorem op_free : Op_free Inv := by
  intro c r a1 hI
  obtain ⟨T, n, hT, hM, hO⟩ := id hI
  unfold xc_free m_free
  rcases term_cases hM.1 hM.2.1 hM.2.2.1 a1 with ⟨t, ht, rfl, e1, e2⟩ | ⟨e1, e2⟩
  · refine ⟨c 15 t, by rw [e1, ob_s, if_neg n10, x_freeLettersOf_t hM.1 hM.2.2.1 ht, ob_s], ?_, hI⟩
    rw [e2, ob_s, if_neg n10]
    exact free_L hM ht 26 0 0 rfl (fun z => by rw [tb_0]; simp)
  · exact ⟨-1, by rw [e1, ob_s, if_pos rfl], by rw [e2, ob_s, if_pos rfl], hI⟩
