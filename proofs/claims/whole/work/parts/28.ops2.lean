theorem n10 : ¬ (1 : Int32) = 0 := by decide
theorem op_fault : Op_fault Inv := by
  intro c r a hI
  obtain ⟨T, n, hT, hM, hO⟩ := id hI
  obtain ⟨-, ⟨h1, h2, h3⟩, -⟩ := hO
  unfold xc_fault m_fault xTypist_latestFault xTypist_latestFaultAt
  rw [ob_s, ob_s, h1, h2]
  by_cases e0 : a = 0
  · exact ⟨_, by rw [if_pos e0], by rw [if_pos e0], hI⟩
  · by_cases e1 : a = 1
    · exact ⟨_, by rw [if_neg e0, if_pos e1], by rw [if_neg e0, if_pos e1], hI⟩
    · exact ⟨_, by rw [if_neg e0, if_neg e1], by rw [if_neg e0, if_neg e1], hI⟩
theorem op_ran : Op_ran Inv := by
  intro c r hI
  obtain ⟨T, n, hT, hM, hO⟩ := id hI
  exact ⟨c 0 9, rfl, congrArg some hO.2.1.2.2, hI⟩
theorem op_count : Op_count Inv := by
  intro c r a hI
  obtain ⟨T, n, hT, hM, hO⟩ := id hI
  obtain ⟨L, -, p1, p2, -⟩ := hO.2.2.1
  obtain ⟨M, -, q1, q2, -⟩ := hO.2.2.2
  unfold xc_count m_count xTerms_total xTypes_total xReader_tapeLength xPrinter_printLength
  rw [ob_s, ob_s, ob_s, ob_s, hM.1, hM.2.1, hT.1, hT.2.1, p1, p2, q1, q2]
  by_cases e0 : a = 0
  · exact ⟨_, by rw [if_pos e0], by rw [if_pos e0], hI⟩
  · by_cases e1 : a = 1
    · exact ⟨_, by rw [if_neg e0, if_pos e1], by rw [if_neg e0, if_pos e1], hI⟩
    · by_cases e2 : a = 2
      · exact ⟨_, by rw [if_neg e0, if_neg e1, if_pos e2], by rw [if_neg e0, if_neg e1, if_pos e2], hI⟩
      · by_cases e3 : a = 3
        · exact ⟨_, by rw [if_neg e0, if_neg e1, if_neg e2, if_pos e3], by rw [if_neg e0, if_neg e1, if_neg e2, if_pos e3], hI⟩
        · exact ⟨_, by rw [if_neg e0, if_neg e1, if_neg e2, if_neg e3], by rw [if_neg e0, if_neg e1, if_neg e2, if_neg e3], hI⟩
/-- the terms cut down -/
theorem fX_5 {c : jS} {v : Int32} : fX c (su c 5 12 v) := fun p hp => su_ne (by omega)
theorem Tm_cut {c r : jS} {T n m : Nat} (h : Tm c r T n) (hm : m ≤ n) : Tm (su c 5 12 (nI m)) (su r 30 5 (nI m)) T m := by
  refine Tm_of (c := c) (r := r) hm ?_ (AgM_5 AgM.rf) (fun _ _ => rfl) (by rw [su_row, upd_s]) (by rw [su_row, upd_s]) h
  intro p h1 h2 t ht
  rw [su_ne (by omega)]
theorem op_clear : Op_clear Inv := by
  intro c r hI
  obtain ⟨T, n, hT, hM, hO⟩ := id hI
  unfold xc_clear m_clear xTerms_total xTerms_cutTo
  rw [ob_s, hM.1, hM.2.1, if_neg (by decide), ltS]
  by_cases h0 : n = 0
  · subst h0
    refine ⟨_, c, su r 30 5 0, by rw [if_pos (by decide), bd_s], rfl, T, 0, Ty_f fX.rf (fM_5 fM.rf) hT, ?_, Oth_f fX.rf (fM_5 fM.rf) hO⟩
    exact Tm_of (Nat.le_refl 0) AgX.rf (AgM_5 AgM.rf) (fun _ _ => rfl) hM.1 (by rw [su_row, upd_s]; rfl) hM
  · refine ⟨_, su c 5 12 0, su r 30 5 0, ?_, rfl, T, 0, Ty_f fX_5 (fM_5 fM.rf) hT, Tm_cut (m := 0) hM (by omega), Oth_f fX_5 (fM_5 fM.rf) hO⟩
    rw [if_neg (show ¬ nI n ≤ 0 from nI_nle (by omega) (by have := hM.2.2.1; omega)), bd_s]
theorem op_side : Op_side Inv := by
  intro c r a1 a2 hI
  obtain ⟨T, n, hT, hM, hO⟩ := id hI
  unfold xc_side m_side
  rcases type_cases hT.1 hT.2.1 hT.2.2.2.1 a1 with ⟨y, hy, rfl, e1, e2⟩ | ⟨e1, e2⟩
  · have hT4 := hT.2.2.2.1
    have hrow := hT.2.2.2.2.1 y hy
    rw [e1, ob_s, if_neg n10, e2, ob_s, if_neg n10, gd_t (ix_nI (by omega) (by decide)), gd_t (ix_nI (by omega) (by decide)), nI_clamp (by omega), xt_fromOf_t hT.1 hT4 hy, ob_s, xt_toOf_t hT.1 hT4 hy, ob_s, hrow.1, hrow.2.1]
    by_cases h0 : a2 < 0
    · exact ⟨-1, by rw [if_pos h0], by rw [m_in_lo h0, ob_s, if_pos rfl], hI⟩
    · by_cases h1 : a2 ≤ 1
      · have hin : m_in r a2 0 1 = some 1 := by
          unfold m_in
          rw [if_neg h0, if_neg (by rw [Int32.lt_iff_toInt_lt]; rw [Int32.le_iff_toInt_le] at h1; omega)]
        rw [if_neg h0, if_pos h1, hin, ob_s, if_neg n10]
        by_cases hz : a2 = 0
        · exact ⟨_, by rw [if_pos hz], by rw [if_pos hz], hI⟩
        · exact ⟨_, by rw [if_neg hz], by rw [if_neg hz], hI⟩
      · have hin : m_in r a2 0 1 = some 0 := m_in_hi h0 (by rw [Int32.lt_iff_toInt_lt]; rw [Int32.le_iff_toInt_le] at h1; omega)
        exact ⟨-1, by rw [if_neg h0, if_neg h1], by rw [hin, ob_s, if_pos rfl], hI⟩
  · exact ⟨-1, by rw [e1, ob_s, if_pos rfl], by rw [e2, ob_s, if_pos rfl], hI⟩
theorem decl_ok {c r : jS} {x : Nat} {v : Int32} (hI : Inv c r) (hx : x < 26) (hv : v = -2 ∨ ∃ T y, c 1 3 = nI T ∧ T ≤ 40 ∧ y < T ∧ v = nI y) : Inv (su c 18 x v) (su r 34 x v) := by
  obtain ⟨T, n, hT, hM, hO⟩ := hI
  refine ⟨T, n, hT, Tm_of (Nat.le_refl n) ?_ ?_ (fun _ _ => rfl) hM.1 hM.2.1 hM, ?_, hO.2⟩
  · intro p h1 h2 t ht
    rw [su_ne (by omega)]
  · refine ⟨fun p h1 h2 h3 t ht => ?_, fun _ _ => rfl, fun _ _ => rfl⟩
    rw [su_ne (by omega)]
  · intro z hz
    show upd (r 34) x v z = upd (c 18) x v z ∧ (upd (c 18) x v z = -2 ∨ ∃ y, y < T ∧ upd (c 18) x v z = nI y)
    by_cases h : z = x
    · subst h
      rw [upd_s, upd_s]
      refine ⟨rfl, ?_⟩
      rcases hv with hv | ⟨T', y, h1, h2, h3, h4⟩
      · exact Or.inl hv
      · have : nI T' = nI T := h1.symm.trans hT.1
        have hT4 := hT.2.2.2.1
        have e : T' = T := (nI_eq (by omega) (by omega)).mp this
        exact Or.inr ⟨y, by omega, h4⟩
    · rw [upd_n h, upd_n h]
      exact hO.1 z hz
theorem op_declare : Op_declare Inv := by
  intro c r a1 a2 hI
  obtain ⟨T, n, hT, hM, hO⟩ := id hI
  unfold xc_declare m_declare
  rcases letter_cases (c := c) (r := r) a1 with ⟨x, hx, rfl, e1, e2⟩ | ⟨e1, e2⟩
  · have es : xTypist_setDeclared c (nI x) a2 = some ((), su c 18 x a2) := by
      unfold xTypist_setDeclared
      rw [e1, ob_s, if_neg n10, gd_t (ix_nI hx (by decide)), ltS, nI_clamp (by omega)]
    rw [e1, ob_s, if_neg n10, e2, ob_s, if_neg n10, es, bd_s, gd_t (ix_nI hx (by decide)), ltS, nI_clamp (by omega)]
    by_cases h2 : a2 = -2
    · exact ⟨1, su c 18 x a2, su r 34 x a2, by rw [if_pos h2], by rw [if_pos h2], decl_ok hI hx (Or.inl h2)⟩
    · rcases type_cases hT.1 hT.2.1 hT.2.2.2.1 a2 with ⟨y, hy, rfl, e3, e4⟩ | ⟨e3, e4⟩
      · exact ⟨1, su c 18 x (nI y), su r 34 x (nI y), by rw [if_neg h2, e3, ob_s, if_neg n10], by rw [if_neg h2, e4, ob_s, if_neg n10], decl_ok hI hx (Or.inr ⟨T, y, hT.1, hT.2.2.2.1, hy, rfl⟩)⟩
      · exact ⟨-1, c, r, by rw [if_neg h2, e3, ob_s, if_pos rfl], by rw [if_neg h2, e4, ob_s, if_pos rfl], hI⟩
  · exact ⟨-1, c, r, by rw [e1, ob_s, if_pos rfl], by rw [e2, ob_s, if_pos rfl], hI⟩
theorem op_at : Op_at Inv := by
  intro c r a hI
  obtain ⟨T, n, hT, hM, hO⟩ := id hI
  obtain ⟨L, hL, p1, p2, p3⟩ := hO.2.2.1
  unfold xc_at m_at xPrinter_byteAt
  rw [p1, p2]
  by_cases h0 : a < 0
  · exact ⟨-1, by rw [if_pos h0, ob_s], by rw [m_in_lo h0, ob_s, if_pos rfl], hI⟩
  · obtain ⟨j, hj, rfl⟩ := nI_of h0
    rw [if_neg h0]
    by_cases hjL : j < L
    · have hin : m_in r (nI j) 0 (nI L - 1) = some 1 := by
        rw [show nI L - 1 = nI (L - 1) from nI_subI (b := 1) (by omega)]
        exact m_in_t (a := 0) (by omega) (by omega) (by omega)
      refine ⟨c 27 j &&& 255, ?_, ?_, hI⟩
      · rw [if_neg (nI_ge hjL (by omega)), if_neg (show ¬ (4000 : Int32) ≤ nI j from nI_ge (b := 4000) (by omega) (by decide)), gd_t (ix_nI (by omega) (by decide)), ob_s, nI_clamp (by omega)]
      · rw [hin, ob_s, if_neg n10, gd_t (ix_nI (by omega) (by decide)), nI_clamp (by omega), p3 j hjL]
    · have hin : m_in r (nI j) 0 (nI L - 1) = some 0 := by
        refine m_in_hi h0 ?_
        by_cases hn : L = 0
        · subst hn
          exact m1_lt hj
        · rw [show nI L - 1 = nI (L - 1) from nI_subI (b := 1) (by omega)]
          exact nI_lt (by omega) hj
      exact ⟨-1, by rw [if_pos (nI_le (by omega) hj), ob_s], by rw [hin, ob_s, if_pos rfl], hI⟩
theorem op_join : Op_join Inv := by
  intro c r a1 a2 a3 a4 hI
  obtain ⟨T, n, hT, hM, hO⟩ := id hI
  have two : ∀ k : Nat, k = 3 ∨ k = 5 → ∃ v c' r', xc_join_P16 (nI k) a2 a3 a4 c = some (v, c') ∧ m_join_P25 (nI k) a2 a3 a4 r = some (v, r') ∧ Inv c' r' := by
    intro k hk
    have h6 : ¬ nI k = (6 : Int32) := fun e => by
      have := (nI_eq (a := k) (b := 6) (by omega) (by decide)).mp e
      omega
    unfold xc_join_P16 m_join_P25 m_join_P45 m_join_P46
    rcases term_cases hM.1 hM.2.1 hM.2.2.1 a2 with ⟨a, ha, rfl, e3, e4⟩ | ⟨e3, e4⟩
    · rcases term_cases hM.1 hM.2.1 hM.2.2.1 a3 with ⟨b, hb, rfl, e5, e6⟩ | ⟨e5, e6⟩
      · obtain ⟨v, c', r', f1, f2, hx, hm, -, -, h⟩ := MK (k := k) (lx := none) (ty := none) (oa := some a) (ob := some b) (od := none) hT hM (by omega) ⟨by omega, by rcases hk with rfl | rfl <;> rfl, lo_n, lo_n, lo_s ha, lo_s hb, lo_n⟩
        refine ⟨v, c', r', ?_, ?_, Inv_mk hx hm hT hO h⟩
        · rw [e3, ob_s, if_neg n10, e5, ob_s, if_neg n10, if_neg h6]
          unfold xTerms_newJoined
          rw [show xTerms_made c (nI k) (-2) (-2) (nI a) (nI b) (-2) = some (v, c') from f1, bd_s, bd_s]
        · rw [e4, ob_s, if_neg n10, e6, ob_s, if_neg n10, if_neg n10, if_neg h6, show m_make r (nI k) 0 (-2) (-2) (nI a) (nI b) (-2) = some (v, r') from f2, bd_s]
      · exact ⟨-1, c, r, by rw [e3, ob_s, if_neg n10, e5, ob_s, if_pos rfl], by rw [e4, ob_s, if_neg n10, e6, ob_s, if_pos rfl, if_pos rfl], hI⟩
    · exact ⟨-1, c, r, by rw [e3, ob_s, if_pos rfl], by rw [e4, ob_s, if_pos rfl, if_pos rfl], hI⟩
  unfold xc_join m_join
  by_cases k3 : a1 = 3
  · subst k3
    obtain ⟨v, c', r', h1, h2, h3⟩ := two 3 (Or.inl rfl)
    exact ⟨v, c', r', by rw [if_pos rfl]; exact h1, by rw [if_pos rfl]; exact h2, h3⟩
  · by_cases k5 : a1 = 5
    · subst k5
      obtain ⟨v, c', r', h1, h2, h3⟩ := two 5 (Or.inr rfl)
      exact ⟨v, c', r', by rw [if_neg k3, if_pos rfl]; exact h1, by rw [if_neg k3, if_pos rfl]; exact h2, h3⟩
    · by_cases k6 : a1 = 6
      · subst k6
        rw [if_neg k3, if_neg k5, if_pos rfl, if_neg k3, if_neg k5, if_pos rfl]
        unfold xc_join_P16 m_join_P25 m_join_P45 m_join_P46
        rcases term_cases hM.1 hM.2.1 hM.2.2.1 a4 with ⟨d, hd, rfl, e7, e8⟩ | ⟨e7, e8⟩
        · rcases term_cases hM.1 hM.2.1 hM.2.2.1 a2 with ⟨a, ha, rfl, e3, e4⟩ | ⟨e3, e4⟩
          · rcases term_cases hM.1 hM.2.1 hM.2.2.1 a3 with ⟨b, hb, rfl, e5, e6⟩ | ⟨e5, e6⟩
            · obtain ⟨v, c', r', f1, f2, hx, hm, -, -, h⟩ := MK (k := 6) (lx := none) (ty := none) (oa := some a) (ob := some b) (od := some d) hT hM (by decide) ⟨by decide, rfl, lo_n, lo_n, lo_s ha, lo_s hb, lo_s hd⟩
              refine ⟨v, c', r', ?_, ?_, Inv_mk hx hm hT hO h⟩
              · rw [e3, ob_s, if_neg n10, e5, ob_s, if_neg n10, if_pos rfl, e7, ob_s, if_neg n10]
                unfold xTerms_newJoined
                rw [show xTerms_made c 6 (-2) (-2) (nI a) (nI b) (nI d) = some (v, c') from f1, bd_s, bd_s]
              · rw [e8, ob_s, if_neg n10, e4, ob_s, if_neg n10, e6, ob_s, if_neg n10, if_neg n10, if_pos rfl, show m_make r 6 0 (-2) (-2) (nI a) (nI b) (nI d) = some (v, r') from f2, bd_s]
            · exact ⟨-1, c, r, by rw [e3, ob_s, if_neg n10, e5, ob_s, if_pos rfl], by rw [e8, ob_s, if_neg n10, e4, ob_s, if_neg n10, e6, ob_s, if_pos rfl, if_pos rfl], hI⟩
          · exact ⟨-1, c, r, by rw [e3, ob_s, if_pos rfl], by rw [e8, ob_s, if_neg n10, e4, ob_s, if_pos rfl, if_pos rfl], hI⟩
        · refine ⟨-1, c, r, ?_, by rw [e8, ob_s, if_pos rfl, if_pos rfl], hI⟩
          rcases term_cases hM.1 hM.2.1 hM.2.2.1 a2 with ⟨a, ha, rfl, e3, e4⟩ | ⟨e3, e4⟩
          · rcases term_cases hM.1 hM.2.1 hM.2.2.1 a3 with ⟨b, hb, rfl, e5, e6⟩ | ⟨e5, e6⟩
            · rw [e3, ob_s, if_neg n10, e5, ob_s, if_neg n10, if_pos rfl, e7, ob_s, if_pos rfl]
            · rw [e3, ob_s, if_neg n10, e5, ob_s, if_pos rfl]
          · rw [e3, ob_s, if_pos rfl]
      · rw [if_neg k3, if_neg k5, if_neg k6, if_neg k3, if_neg k5, if_neg k6]
        exact ⟨-1, c, r, rfl, rfl, hI⟩
