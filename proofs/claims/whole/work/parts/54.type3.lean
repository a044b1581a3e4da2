theorem TR_pop {T p y : Nat} {c r R : jS} (hT : Ty c R T) (fm : fMY T p r R) (hy : y < T) (h22 : R 30 22 = nI y) (h14 : R 30 14 = nI p) (h24 : R 30 24 = 0) (h25 : R 30 25 = r 30 25) (h50 : R 50 = r 50) : TR T p c r (nI y) c R :=
  ⟨T, Nat.le_refl T, hT, fXY.rf, fm, Or.inr (Or.inr ⟨y, hy, rfl, h22, h14, h24, h25, rfl, rfl, h50⟩)⟩
set_option maxHeartbeats 1000000 in
theorem ty_sum {d : Nat} (ih : TyS d) {f t a b : Nat} {c r : jS} {T n p : Nat} {v2 : Int32} (hW : Tw c r T n) (ht : t < n) (hK : c 6 t = nI 5) (ha : a < t) (hb : b < t) (c10 : c 10 t = nI a) (c11 : c 11 t = nI b) (hda : dpN c a ≤ d) (hdb : dpN c b ≤ d) (hf : 3 * d ≤ f) (hp : p + 1 + d ≤ 90) (hp1 : p + 1 < 90) (h14 : r 30 14 = nI p) (hg : r 30 22 ≠ -3) :
    ∃ (v : Int32) (c' r' : jS), xTypist_typeForSum (f + 2) c (nI t) = some (v, c') ∧ m_type_L67 v2 (psh r p (nI t)) = m_type_L67 v2 r' ∧ TR T p c r v c' r' := by
  have h4 := hW.2.1.2.2.1
  obtain ⟨⟨r35, -, -, -, -, r39b, -⟩, -⟩ := (hW.2.1.2.2.2 t ht).1
  obtain ⟨v1, c1, r1, q1, q2, q3⟩ := ty_num0 ih (v2 := v2) hW ht hK (Or.inl rfl) ha c10 hda hf hp hp1 h14 hg
  rw [xTypist_typeForSum_s]
  unfold b_xTypist_typeForSum
  rw [x_firstOf_t hW.2.1.1 h4 ht, ob_s, c10, q1, bd_s]
  rcases q3 with ⟨hv, q3⟩ | ⟨rfl, T1, hT1, hW1, fx, fm, E1, w22, w25, w17, w19, w50⟩
  · rw [if_neg (nlt0 hv)]
    exact ⟨v1, c1, r1, rfl, q2, q3⟩
  · rw [if_pos (by decide), x_secondOf_t hW1.2.1.1 h4 ht, ob_s, fx.1 11 (by omega), c11]
    have hWR : Tw c1 (su r1 44 p (nI (1 + 1))) T1 n := Tw_44 hW1
    have ER : En (su r1 44 p (nI (1 + 1))) p t (1 + 1) (-2) (-2) (-2) := En_44 E1
    have fmR : fMY T1 p r1 (su r1 44 p (nI (1 + 1))) := fMY_su fMY.rf (by omega) (by omega) (Or.inl (Nat.le_refl p))
    have k35 : r1 35 t = nI 5 := by rw [fm.1 35 (by omega)]; exact r35.trans hK
    have k39 : r1 39 (3 * t + 1) = nI b := by rw [fm.1 39 (by omega)]; exact r39b.trans c11
    have k6 : c1 6 t = nI 5 := by rw [fx.1 6 (by omega)]; exact hK
    have e1 : m_type_L67 v2 r1 = m_type_L67 v2 (psh (su r1 44 p (nI (1 + 1))) (p + 1) (nI b)) := by
      refine L67_s ?_
      rw [ty_turn hW1.2.1 ht E1 (by omega) (by decide) k6 hW1.2.2.2 (by rw [w22]; decide), if_neg (by decide), if_neg (by decide), if_neg (by decide), if_neg (by decide)]
      refine bd_inl ?_
      rw [tm_num (R := su r1 44 p (nI (1 + 1))) (Or.inl rfl) (by omega) k35]
      unfold m_typeOfNumbers_P16
      rw [if_neg (by decide), if_pos (by decide), show (su r1 44 p (nI (1 + 1))) 30 22 = 0 from w22, if_pos rfl, m_p1 hWR.2.1 ht, ob_s, show (su r1 44 p (nI (1 + 1))) 39 (3 * t + 1) = nI b from k39, m_push_t ER.1 (by omega), bd_s]
    obtain ⟨v3, c3, r3, s1, s2, s3⟩ := ih f b c1 _ T1 n (p + 1) v2 hWR (by omega) (by unfold dpN; rw [fx.1 14 (by omega)]; exact hdb) hf hp ER.1 (show (su r1 44 p (nI (1 + 1))) 30 22 ≠ -3 from (by rw [show (su r1 44 p (nI (1 + 1))) 30 22 = 0 from w22]; decide))
    have el := (q2.trans e1).trans s2
    have up : ∀ {v : Int32} {c' r' : jS}, TR T1 p c1 r1 v c' r' → TR T p c r v c' r' := fun h => TR_seq hT1 fx fm w17 w19 w50 w25 h
    by_cases hv : v3 < 0
    · refine ⟨v3, c3, r3, ?_, el, up (TR_fail hv s3 fmR rfl)⟩
      rw [tti s1, if_pos hv, bd_s]
    · obtain ⟨y, T3, hy, hT3, rfl, hW3, fx3, fmc3, fm3, z22, z14, z25, z17, z19, z50⟩ := TR_ok hv hWR s3 fmR
      have h43 := hW3.1.2.2.2.1
      have E3 := En_Y fmc3 z14 ER
      have hWQ : Tw c3 (su r3 44 p (nI (1 + 1 + 1))) T3 n := Tw_44 hW3
      have j35 : r3 35 t = nI 5 := by rw [fm3.1 35 (by omega)]; exact k35
      have turn : ∀ {R' : jS}, m_typeOfNumbers_P107 (nI p) (nI t) 0 (su r3 44 p (nI (1 + 1 + 1))) = some ((), R') → m_type_L67 v2 r3 = m_type_L67 v2 R' := by
        intro R' h
        refine L67_s ?_
        rw [ty_turn (K := 5) hW3.2.1 ht E3 (by omega) (by decide) (by rw [fx3.1 6 (by omega)]; exact k6) hW3.2.2.2 (by rw [z22]; exact nne3 (by omega)), if_neg (by decide), if_neg (by decide), if_neg (by decide), if_neg (by decide)]
        refine bd_inl ?_
        rw [tm_num (R := su r3 44 p (nI (1 + 1 + 1))) (Or.inl rfl) (by omega) j35]
        unfold m_typeOfNumbers_P16
        rw [if_neg (by decide), if_neg (by decide), if_pos (by decide)]
        exact h
      by_cases hy0 : y = 0
      · subst hy0
        refine ⟨0, c3, _, ?_, el.trans (turn (R' := su (su r3 44 p (nI (1 + 1 + 1))) 30 14 (nI p)) ?_), up (TR_seq hT3 fx3 fm3 z17 z19 (z50.trans rfl) (z25.trans rfl) ?_)⟩
        · rw [tti s1, if_neg hv, if_pos (show nI 0 = (0 : Int32) from rfl), bd_s]; rfl
        · unfold m_typeOfNumbers_P107
          rw [if_pos rfl, show (su r3 44 p (nI (1 + 1 + 1))) 30 22 = nI 0 from z22, if_pos (by decide), ltS, show (su r3 44 p (nI (1 + 1 + 1))) 30 14 = nI (p + 1) from z14, nI_pred]
        · exact TR_pop (y := 0) (Ty_r (fun _ _ _ => rfl) rfl (fun q h1 h2 => by rw [su_ne (by omega), su_ne (by omega)]) hW3.1) (fMY_30 (fMY_su fMY.rf (by omega) (by omega) (Or.inl (Nat.le_refl p))) (by omega)) hy (by rw [su_row, upd_n (by omega)]; exact z22) (by rw [su_row, upd_s]) (by rw [su_row, upd_n (by omega)]; exact hW3.2.2.2) (by rw [su_row, upd_n (by omega)]; rfl) rfl
      · have hne : ¬ nI y = (0 : Int32) := nI_ne0 (by omega) (by omega)
        refine ⟨-2, flX c3 3 b, _, ?_, el.trans (turn (R' := flM (su r3 44 p (nI (1 + 1 + 1))) 3 b) ?_), up (TR_seq hT3 fx3 fm3 z17 z19 (z50.trans rfl) (z25.trans rfl) (TR_fault hWQ.1 (fMY_su fMY.rf (by omega) (by omega) (Or.inl (Nat.le_refl p))) (by decide)))⟩
        · rw [tti s1, if_neg hv, if_neg hne, bd_s]
        · unfold m_typeOfNumbers_P107 m_typeOfNumbers_P135
          rw [if_pos rfl, show (su r3 44 p (nI (1 + 1 + 1))) 30 22 = nI y from z22, if_neg hne, if_pos rfl, m_p1 hWQ.2.1 ht, ob_s, show (su r3 44 p (nI (1 + 1 + 1))) 39 (3 * t + 1) = nI b from (by show r3 39 (3 * t + 1) = _; rw [fm3.1 39 (by omega)]; exact k39), m_faults_t, bd_s]
set_option maxHeartbeats 1000000 in
theorem ty_choice {d : Nat} (ih : TyS d) {f t a b e : Nat} {c r : jS} {T n p : Nat} {v2 : Int32} (hW : Tw c r T n) (ht : t < n) (hK : c 6 t = nI 6) (ha : a < t) (hb : b < t) (he : e < t) (c10 : c 10 t = nI a) (c11 : c 11 t = nI b) (c12 : c 12 t = nI e) (hda : dpN c a ≤ d) (hdb : dpN c b ≤ d) (hde : dpN c e ≤ d) (hf : 3 * d ≤ f) (hp : p + 1 + d ≤ 90) (hp1 : p + 1 < 90) (h14 : r 30 14 = nI p) (hg : r 30 22 ≠ -3) :
    ∃ (v : Int32) (c' r' : jS), xTypist_typeForChoice (f + 2) c (nI t) = some (v, c') ∧ m_type_L67 v2 (psh r p (nI t)) = m_type_L67 v2 r' ∧ TR T p c r v c' r' := by
  have h4 := hW.2.1.2.2.1
  obtain ⟨⟨r35, -, -, -, -, r39b, r39c, -⟩, -⟩ := (hW.2.1.2.2.2 t ht).1
  obtain ⟨v1, c1, r1, q1, q2, q3⟩ := ty_num0 ih (v2 := v2) hW ht hK (Or.inr rfl) ha c10 hda hf hp hp1 h14 hg
  rw [xTypist_typeForChoice_s]
  unfold b_xTypist_typeForChoice
  rw [x_firstOf_t hW.2.1.1 h4 ht, ob_s, c10, q1, bd_s]
  rcases q3 with ⟨hv, q3⟩ | ⟨rfl, T1, hT1, hW1, fx, fm, E1, w22, w25, w17, w19, w50⟩
  · rw [if_neg (nlt0 hv)]
    exact ⟨v1, c1, r1, rfl, q2, q3⟩
  · rw [if_pos (by decide), x_secondOf_t hW1.2.1.1 h4 ht, ob_s, fx.1 11 (by omega), c11]
    have hWR : Tw c1 (su r1 44 p (nI (1 + 1))) T1 n := Tw_44 hW1
    have ER : En (su r1 44 p (nI (1 + 1))) p t (1 + 1) (-2) (-2) (-2) := En_44 E1
    have fmR : fMY T1 p r1 (su r1 44 p (nI (1 + 1))) := fMY_su fMY.rf (by omega) (by omega) (Or.inl (Nat.le_refl p))
    have k35 : r1 35 t = nI 6 := by rw [fm.1 35 (by omega)]; exact r35.trans hK
    have k39 : r1 39 (3 * t + 1) = nI b := by rw [fm.1 39 (by omega)]; exact r39b.trans c11
    have k39c : r1 39 (3 * t + 2) = nI e := by rw [fm.1 39 (by omega)]; exact r39c.trans c12
    have k6 : c1 6 t = nI 6 := by rw [fx.1 6 (by omega)]; exact hK
    have e1 : m_type_L67 v2 r1 = m_type_L67 v2 (psh (su r1 44 p (nI (1 + 1))) (p + 1) (nI b)) := by
      refine L67_s ?_
      rw [ty_turn hW1.2.1 ht E1 (by omega) (by decide) k6 hW1.2.2.2 (by rw [w22]; decide), if_neg (by decide), if_neg (by decide), if_neg (by decide), if_neg (by decide)]
      refine bd_inl ?_
      rw [tm_num (R := su r1 44 p (nI (1 + 1))) (Or.inr rfl) (by omega) k35]
      unfold m_typeOfNumbers_P16
      rw [if_neg (by decide), if_pos (by decide), show (su r1 44 p (nI (1 + 1))) 30 22 = 0 from w22, if_pos rfl, m_p1 hWR.2.1 ht, ob_s, show (su r1 44 p (nI (1 + 1))) 39 (3 * t + 1) = nI b from k39, m_push_t ER.1 (by omega), bd_s]
    obtain ⟨v3, c3, r3, s1, s2, s3⟩ := ih (f + 1) b c1 _ T1 n (p + 1) v2 hWR (by omega) (by unfold dpN; rw [fx.1 14 (by omega)]; exact hdb) (by omega) hp ER.1 (show (su r1 44 p (nI (1 + 1))) 30 22 ≠ -3 from (by rw [show (su r1 44 p (nI (1 + 1))) 30 22 = 0 from w22]; decide))
    have el := (q2.trans e1).trans s2
    have up : ∀ {v : Int32} {c' r' : jS}, TR T1 p c1 r1 v c' r' → TR T p c r v c' r' := fun h => TR_seq hT1 fx fm w17 w19 w50 w25 h
    rw [s1, bd_s]
    by_cases hv : v3 < 0
    · refine ⟨v3, c3, r3, ?_, el, up (TR_fail hv s3 fmR rfl)⟩
      rw [if_neg (nlt0 hv)]
    · obtain ⟨y, T3, hy, hT3, rfl, hW3, fx3, fmc3, fm3, z22, z14, z25, z17, z19, z50⟩ := TR_ok hv hWR s3 fmR
      have h43 := hW3.1.2.2.2.1
      have E3 := En_Y fmc3 z14 ER
      have up3 : ∀ {v : Int32} {c' r' : jS}, TR T3 p c3 r3 v c' r' → TR T p c r v c' r' := fun h => up (TR_seq hT3 fx3 fm3 z17 z19 (z50.trans rfl) (z25.trans rfl) h)
      rw [if_pos (ge0 hv), x_thirdOf_t hW3.2.1.1 h4 ht, ob_s, fx3.1 12 (by omega), fx.1 12 (by omega), c12]
      have fmQ : fMY T3 p r3 (su (su r3 44 p (nI (1 + 1 + 1))) 46 p (nI y)) := fMY_su (fMY_su fMY.rf (by omega) (by omega) (Or.inl (Nat.le_refl p))) (by omega) (by omega) (Or.inl (Nat.le_refl p))
      have hWQ : Tw c3 (su (su r3 44 p (nI (1 + 1 + 1))) 46 p (nI y)) T3 n := Tw_r (p := p) hW3 fmQ rfl (fun q h1 h2 => by rw [su_ne (by omega), su_ne (by omega)]) rfl rfl
      have EQ : En (su (su r3 44 p (nI (1 + 1 + 1))) 46 p (nI y)) p t (1 + 1 + 1) (-2) (nI y) (-2) := ⟨z14, E3.2.1, (show upd (r3 44) p (nI (1 + 1 + 1)) p = _ from upd_s), E3.2.2.2.1, (show upd (r3 46) p (nI y) p = _ from upd_s), E3.2.2.2.2.2⟩
      have j35 : r3 35 t = nI 6 := by rw [fm3.1 35 (by omega)]; exact k35
      have j39 : r3 39 (3 * t + 2) = nI e := by rw [fm3.1 39 (by omega)]; exact k39c
      have j6 : c3 6 t = nI 6 := by rw [fx3.1 6 (by omega)]; exact k6
      have e3 : m_type_L67 v2 r3 = m_type_L67 v2 (psh (su (su r3 44 p (nI (1 + 1 + 1))) 46 p (nI y)) (p + 1) (nI e)) := by
        refine L67_s ?_
        rw [ty_turn hW3.2.1 ht E3 (by omega) (by decide) j6 hW3.2.2.2 (by rw [z22]; exact nne3 (by omega)), if_neg (by decide), if_neg (by decide), if_neg (by decide), if_neg (by decide)]
        refine bd_inl ?_
        rw [tm_num (R := su r3 44 p (nI (1 + 1 + 1))) (Or.inr rfl) (by omega) j35]
        unfold m_typeOfNumbers_P16
        rw [if_neg (by decide), if_neg (by decide), if_neg (by decide), if_pos (by decide), gd_t (ix_nI (by omega) (by decide)), ltS, nI_clamp (show p < 2 ^ 31 by omega), show (su r3 44 p (nI (1 + 1 + 1))) 30 22 = nI y from z22, m_p2 hWQ.2.1 ht, ob_s, show (su (su r3 44 p (nI (1 + 1 + 1))) 46 p (nI y)) 39 (3 * t + 2) = nI e from j39, m_push_t EQ.1 (by omega), bd_s]
      obtain ⟨v5, c5, r5, u1, u2, u3⟩ := ih f e c3 _ T3 n (p + 1) v2 hWQ (by omega) (by unfold dpN; rw [fx3.1 14 (by omega), fx.1 14 (by omega)]; exact hde) hf hp EQ.1 (show r3 30 22 ≠ -3 from (by rw [z22]; exact nne3 (by omega)))
      have el5 := (el.trans e3).trans u2
      by_cases hv5 : v5 < 0
      · refine ⟨v5, c5, r5, ?_, el5, up3 (TR_fail hv5 u3 fmQ rfl)⟩
        rw [tti u1, if_pos hv5, bd_s]
      · obtain ⟨z, T5, hz, hT5, rfl, hW5, fx5, fmc5, fm5, y22, y14, y25, y17, y19, y50⟩ := TR_ok hv5 hWQ u3 fmQ
        have h45 := hW5.1.2.2.2.1
        have E5 := En_Y fmc5 y14 EQ
        have up5 : ∀ {v : Int32} {c' r' : jS}, TR T5 p c5 r5 v c' r' → TR T p c r v c' r' := fun h => up3 (TR_seq hT5 fx5 fm5 y17 y19 (y50.trans rfl) (y25.trans rfl) h)
        have hWP : Tw c5 (su r5 44 p (nI (1 + 1 + 1 + 1))) T5 n := Tw_44 hW5
        have turn : ∀ {R' : jS}, m_typeOfNumbers_P107 (nI p) (nI t) 1 (su r5 44 p (nI (1 + 1 + 1 + 1))) = some ((), R') → m_type_L67 v2 r5 = m_type_L67 v2 R' := by
          intro R' h
          refine L67_s ?_
          rw [ty_turn (K := 6) hW5.2.1 ht E5 (by omega) (by decide) (by rw [fx5.1 6 (by omega)]; exact j6) hW5.2.2.2 (by rw [y22]; exact nne3 (by omega)), if_neg (by decide), if_neg (by decide), if_neg (by decide), if_neg (by decide)]
          refine bd_inl ?_
          rw [tm_num (R := su r5 44 p (nI (1 + 1 + 1 + 1))) (Or.inr rfl) (by omega) (show r5 35 t = nI 6 from (by rw [fm5.1 35 (by omega)]; exact j35))]
          unfold m_typeOfNumbers_P16
          rw [if_neg (by decide), if_neg (by decide), if_neg (by decide), if_neg (by decide)]
          exact h
        have g46 : (su r5 44 p (nI (1 + 1 + 1 + 1))) 46 p = nI y := E5.2.2.2.2.1
        by_cases hyz : z = y
        · subst hyz
          refine ⟨nI z, c5, _, ?_, el5.trans (turn (R' := su (su r5 44 p (nI (1 + 1 + 1 + 1))) 30 14 (nI p)) ?_), up5 ?_⟩
          · rw [tti u1, if_neg hv5, if_pos rfl, bd_s]
          · unfold m_typeOfNumbers_P107
            rw [if_neg n10, gd_t (ix_nI (by omega) (by decide)), nI_clamp (show p < 2 ^ 31 by omega), g46, show (su r5 44 p (nI (1 + 1 + 1 + 1))) 30 22 = nI z from y22, if_pos rfl, ltS, show (su r5 44 p (nI (1 + 1 + 1 + 1))) 30 14 = nI (p + 1) from y14, nI_pred]
          · exact TR_pop (Ty_r (fun _ _ _ => rfl) rfl (fun q h1 h2 => by rw [su_ne (by omega), su_ne (by omega)]) hW5.1) (fMY_30 (fMY_su fMY.rf (by omega) (by omega) (Or.inl (Nat.le_refl p))) (by omega)) hz (by rw [su_row, upd_n (by omega)]; exact y22) (by rw [su_row, upd_s]) (by rw [su_row, upd_n (by omega)]; exact hW5.2.2.2) (by rw [su_row, upd_n (by omega)]; rfl) rfl
        · have hne : ¬ nI z = nI y := fun q => hyz ((nI_eq (by omega) (by omega)).mp q)
          refine ⟨-2, flX c5 3 e, _, ?_, el5.trans (turn (R' := flM (su r5 44 p (nI (1 + 1 + 1 + 1))) 3 e) ?_), up5 (TR_fault hWP.1 (fMY_su fMY.rf (by omega) (by omega) (Or.inl (Nat.le_refl p))) (by decide))⟩
          · rw [tti u1, if_neg hv5, if_neg hne, bd_s]
          · unfold m_typeOfNumbers_P107 m_typeOfNumbers_P135
            rw [if_neg n10, gd_t (ix_nI (by omega) (by decide)), nI_clamp (show p < 2 ^ 31 by omega), g46, show (su r5 44 p (nI (1 + 1 + 1 + 1))) 30 22 = nI z from y22, if_neg hne, if_neg n10, m_p2 hWP.2.1 ht, ob_s, show (su r5 44 p (nI (1 + 1 + 1 + 1))) 39 (3 * t + 2) = nI e from (by show r5 39 (3 * t + 2) = _; rw [fm5.1 39 (by omega)]; exact j39), m_faults_t, bd_s]
