set_option maxHeartbeats 1000000 in
theorem ty_call {d : Nat} (ih : TyS d) {f t a b : Nat} {c r : jS} {T n p : Nat} {v2 : Int32} (hW : Tw c r T n) (ht : t < n) (hK : c 6 t = nI 3) (ha : a < t) (hb : b < t) (c10 : c 10 t = nI a) (c11 : c 11 t = nI b) (hda : dpN c a ≤ d) (hdb : dpN c b ≤ d) (hf : 3 * d ≤ f) (hp : p + 1 + d ≤ 90) (hp1 : p + 1 < 90) (h14 : r 30 14 = nI p) (hg : r 30 22 ≠ -3) :
    ∃ (v : Int32) (c' r' : jS), xTypist_typeForCall (f + 2) c (nI t) = some (v, c') ∧ m_type_L67 v2 (psh r p (nI t)) = m_type_L67 v2 r' ∧ TR T p c r v c' r' := by
  have h4 := hW.2.1.2.2.1
  obtain ⟨⟨r35, -, -, -, r39, r39b, -⟩, -⟩ := (hW.2.1.2.2.2 t ht).1
  have hW0 := Tw_psh (p := p) (v := nI t) hW
  have E : En (psh r p (nI t)) p t 0 (-2) (-2) (-2) := En_psh
  have hWR : Tw c (su (psh r p (nI t)) 44 p (nI (0 + 1))) T n := Tw_44 hW0
  have ER : En (su (psh r p (nI t)) 44 p (nI (0 + 1))) p t (0 + 1) (-2) (-2) (-2) := En_44 E
  have fm0 : fMY T p r (su (psh r p (nI t)) 44 p (nI (0 + 1))) := fMY_su (fMY_psh fMY.rf (Nat.le_refl p)) (by omega) (by omega) (Or.inl (Nat.le_refl p))
  have hg0 : (psh r p (nI t)) 30 22 ≠ -3 := by rw [psh_5 (by omega)]; exact hg
  have g25 : (su (psh r p (nI t)) 44 p (nI (0 + 1))) 30 25 = r 30 25 := (show (psh r p (nI t)) 30 25 = r 30 25 from psh_5 (by omega))
  have e0 : m_type_L67 v2 (psh r p (nI t)) = m_type_L67 v2 (psh (su (psh r p (nI t)) 44 p (nI (0 + 1))) (p + 1) (nI a)) := by
    refine L67_s ?_
    rw [ty_turn hW0.2.1 ht E (by omega) (by decide) hK hW0.2.2.2 hg0, if_neg (by decide), if_neg (by decide), if_neg (by decide), if_pos rfl]
    refine bd_inl ?_
    unfold m_typeOfCall
    rw [if_pos (by decide), m_p0 hWR.2.1 ht, ob_s, show (su (psh r p (nI t)) 44 p (nI (0 + 1))) 39 (3 * t) = nI a from r39.trans c10, m_push_t ER.1 (by omega), bd_s]
  obtain ⟨v1, c1, r1, q1, q2, q3⟩ := ih (f + 1) a c _ T n (p + 1) v2 hWR (by omega) hda (by omega) hp ER.1 (show (su (psh r p (nI t)) 44 p (nI (0 + 1))) 30 22 ≠ -3 from hg0)
  have el := e0.trans q2
  rw [xTypist_typeForCall_s]
  unfold b_xTypist_typeForCall
  rw [x_firstOf_t hW.2.1.1 h4 ht, ob_s, c10, q1, bd_s]
  by_cases hv : v1 < 0
  · rw [if_neg (nlt0 hv)]
    exact ⟨v1, c1, r1, rfl, el, TR_fail hv q3 fm0 g25⟩
  · obtain ⟨y, T1, hy, hT1, rfl, hW1, fx, fmc, fm, w22, w14, w25, w17, w19, w50⟩ := TR_ok hv hWR q3 fm0
    have h41 := hW1.1.2.2.2.1
    have E1 := En_Y fmc w14 ER
    have up : ∀ {v : Int32} {c' r' : jS}, TR T1 p c1 r1 v c' r' → TR T p c r v c' r' := fun h => TR_seq hT1 fx fm w17 w19 (w50.trans rfl) (w25.trans g25) h
    have k6 : c1 6 t = nI 3 := by rw [fx.1 6 (by omega)]; exact hK
    have k39 : r1 39 (3 * t) = nI a := by rw [fm.1 39 (by omega)]; exact r39.trans c10
    have k39b : r1 39 (3 * t + 1) = nI b := by rw [fm.1 39 (by omega)]; exact r39b.trans c11
    have fmQ : fMY T1 p r1 (su (su r1 44 p (nI (0 + 1 + 1))) 45 p (nI y)) := fMY_su (fMY_su fMY.rf (by omega) (by omega) (Or.inl (Nat.le_refl p))) (by omega) (by omega) (Or.inl (Nat.le_refl p))
    have hWQ : Tw c1 (su (su r1 44 p (nI (0 + 1 + 1))) 45 p (nI y)) T1 n := Tw_r (p := p) hW1 fmQ rfl (fun q h1 h2 => by rw [su_ne (by omega), su_ne (by omega)]) rfl rfl
    have EQ : En (su (su r1 44 p (nI (0 + 1 + 1))) 45 p (nI y)) p t (0 + 1 + 1) (nI y) (-2) (-2) := ⟨w14, E1.2.1, (show upd (r1 44) p (nI (0 + 1 + 1)) p = _ from upd_s), (show upd (r1 45) p (nI y) p = _ from upd_s), E1.2.2.2.2.1, E1.2.2.2.2.2⟩
    have turn1 : ∀ {R' : jS}, (if nI y = (0 : Int32) then ob (m_part (su (su r1 44 p (nI (0 + 1 + 1))) 45 p (nI y)) (nI t) 0) (fun r8 => bd (m_faults (su (su r1 44 p (nI (0 + 1 + 1))) 45 p (nI y)) 2 r8) (fun _ c9 => some ((), c9))) else ob (m_part (su (su r1 44 p (nI (0 + 1 + 1))) 45 p (nI y)) (nI t) 1) (fun r6 => bd (m_push (su (su r1 44 p (nI (0 + 1 + 1))) 45 p (nI y)) r6) (fun _ c7 => some ((), c7)))) = some ((), R') → m_type_L67 v2 r1 = m_type_L67 v2 R' := by
      intro R' h
      refine L67_s ?_
      rw [ty_turn hW1.2.1 ht E1 (by omega) (by decide) k6 hW1.2.2.2 (by rw [w22]; exact nne3 (by omega)), if_neg (by decide), if_neg (by decide), if_neg (by decide), if_pos rfl]
      refine bd_inl ?_
      unfold m_typeOfCall
      rw [if_neg (by decide), if_pos (by decide), gd_t (ix_nI (by omega) (by decide)), ltS, nI_clamp (show p < 2 ^ 31 by omega), show (su r1 44 p (nI (0 + 1 + 1))) 30 22 = nI y from w22, show (su (su r1 44 p (nI (0 + 1 + 1))) 45 p (nI y)) 30 22 = nI y from w22]
      exact h
    rw [if_pos (ge0 hv)]
    by_cases hy0 : y = 0
    · subst hy0
      rw [if_pos (show nI 0 = (0 : Int32) from rfl), x_faulty, bd_s]
      refine ⟨-2, flX c1 2 a, _, rfl, el.trans (turn1 (R' := flM (su (su r1 44 p (nI (0 + 1 + 1))) 45 p (nI 0)) 2 a) ?_), up (TR_fault hWQ.1 fmQ (by decide))⟩
      rw [if_pos (show nI 0 = (0 : Int32) from rfl), m_p0 hWQ.2.1 ht, ob_s, show (su (su r1 44 p (nI (0 + 1 + 1))) 45 p (nI 0)) 39 (3 * t) = nI a from k39, m_faults_t, bd_s]
    · have hne : ¬ nI y = (0 : Int32) := nI_ne0 (by omega) (by omega)
      obtain ⟨s, g, hs, hgy, d2, d3, -⟩ := hW1.1.2.2.2.2.2.2 y (by omega) hy
      obtain ⟨m31, m32, -⟩ := hW1.1.2.2.2.2.1 y hy
      rw [if_neg hne, xt_fromOf_t hW1.1.1 h41 hy, ob_s, x_secondOf_t hW1.2.1.1 h4 ht, ob_s, fx.1 11 (by omega), c11, d2]
      have e1 := turn1 (R' := psh (su (su r1 44 p (nI (0 + 1 + 1))) 45 p (nI y)) (p + 1) (nI b)) (by rw [if_neg hne, m_p1 hWQ.2.1 ht, ob_s, show (su (su r1 44 p (nI (0 + 1 + 1))) 45 p (nI y)) 39 (3 * t + 1) = nI b from k39b, m_push_t EQ.1 (by omega), bd_s])
      obtain ⟨v3, c3, r3, s1, s2, s3⟩ := ih f b c1 _ T1 n (p + 1) v2 hWQ (by omega) (by unfold dpN; rw [fx.1 14 (by omega)]; exact hdb) hf hp EQ.1 (show r1 30 22 ≠ -3 from (by rw [w22]; exact nne3 (by omega)))
      have el3 := (el.trans e1).trans s2
      by_cases hv3 : v3 < 0
      · rw [tti s1, if_pos hv3, bd_s, if_neg (nlt0 hv3)]
        exact ⟨v3, c3, r3, rfl, el3, up (TR_fail hv3 s3 fmQ rfl)⟩
      · obtain ⟨z, T3, hz, hT3, rfl, hW3, fx3, fmc3, fm3, z22, z14, z25, z17, z19, z50⟩ := TR_ok hv3 hWQ s3 fmQ
        have h43 := hW3.1.2.2.2.1
        have E3 := En_Y fmc3 z14 EQ
        have up3 : ∀ {v : Int32} {c' r' : jS}, TR T3 p c3 r3 v c' r' → TR T p c r v c' r' := fun h => up (TR_seq hT3 fx3 fm3 z17 z19 (z50.trans rfl) (z25.trans rfl) h)
        have hWP : Tw c3 (su r3 44 p (nI (0 + 1 + 1 + 1))) T3 n := Tw_44 hW3
        have g45 : (su r3 44 p (nI (0 + 1 + 1 + 1))) 45 p = nI y := E3.2.2.2.1
        have g31 : (su r3 44 p (nI (0 + 1 + 1 + 1))) 31 y = nI s := (fm3.2.2.1 y hy).1.trans (m31.trans d2)
        have g32 : (su r3 44 p (nI (0 + 1 + 1 + 1))) 32 y = nI g := (fm3.2.2.1 y hy).2.1.trans (m32.trans d3)
        have turn2 : ∀ {R' : jS}, (if nI z = nI s then lt (su (su r3 44 p (nI (0 + 1 + 1 + 1))) 30 22 (nI g)) (fun c1 => lt (su c1 30 14 (c1 30 14 - 1)) (fun c2 => some ((), c2))) else ob (m_part (su r3 44 p (nI (0 + 1 + 1 + 1))) (nI t) 1) (fun r3_1 => bd (m_faults (su r3 44 p (nI (0 + 1 + 1 + 1))) 3 r3_1) (fun _ c4 => some ((), c4)))) = some ((), R') → m_type_L67 v2 r3 = m_type_L67 v2 R' := by
          intro R' h
          refine L67_s ?_
          rw [ty_turn (K := 3) hW3.2.1 ht E3 (by omega) (by decide) (by rw [fx3.1 6 (by omega)]; exact k6) hW3.2.2.2 (by rw [z22]; exact nne3 (by omega)), if_neg (by decide), if_neg (by decide), if_neg (by decide), if_pos rfl]
          refine bd_inl ?_
          unfold m_typeOfCall
          rw [if_neg (by decide), if_neg (by decide), gd_t (ix_nI (by omega) (by decide)), nI_clamp (show p < 2 ^ 31 by omega), g45, gd_t (ix_nI (by omega) (by decide)), nI_clamp (show y < 2 ^ 31 by omega), g31, g32, show (su r3 44 p (nI (0 + 1 + 1 + 1))) 30 22 = nI z from z22, gd_t (ix_nI (by omega) (by decide)), gd_t (ix_nI (by omega) (by decide))]
          exact h
        by_cases hzs : z = s
        · subst hzs
          rw [tti s1, if_neg hv3, if_pos rfl, bd_s, if_pos (ge0 hv3), xt_toOf_t hW3.1.1 h43 (by omega), ob_s, (fx3.2 y hy).2.1, d3]
          refine ⟨nI g, c3, _, rfl, el3.trans (turn2 (R' := su (su (su r3 44 p (nI (0 + 1 + 1 + 1))) 30 22 (nI g)) 30 14 (nI p)) ?_), up3 ?_⟩
          · rw [if_pos rfl, ltS, ltS, show (su (su r3 44 p (nI (0 + 1 + 1 + 1))) 30 22 (nI g)) 30 14 = nI (p + 1) from (by rw [su_row, upd_n (by omega)]; exact z14), nI_pred]
          · exact TR_pop (Ty_r (fun _ _ _ => rfl) rfl (fun q h1 h2 => by rw [su_ne (by omega), su_ne (by omega), su_ne (by omega)]) hW3.1) (fMY_30 (fMY_30 (fMY_su fMY.rf (by omega) (by omega) (Or.inl (Nat.le_refl p))) (by omega)) (by omega)) (by omega) (by rw [su_row, upd_n (by omega), su_row, upd_s]) (by rw [su_row, upd_s]) (by rw [su_row, upd_n (by omega), su_row, upd_n (by omega)]; exact hW3.2.2.2) (by rw [su_row, upd_n (by omega), su_row, upd_n (by omega)]; rfl) rfl
        · have hne3 : ¬ nI z = nI s := fun q => hzs ((nI_eq (by omega) (by omega)).mp q)
          rw [tti s1, if_neg hv3, if_neg hne3, bd_s, if_neg (by decide)]
          refine ⟨-2, flX c3 3 b, _, rfl, el3.trans (turn2 (R' := flM (su r3 44 p (nI (0 + 1 + 1 + 1))) 3 b) ?_), up3 (TR_fault hWP.1 (fMY_su fMY.rf (by omega) (by omega) (Or.inl (Nat.le_refl p))) (by decide))⟩
          rw [if_neg hne3, m_p1 hWP.2.1 ht, ob_s, show (su r3 44 p (nI (0 + 1 + 1 + 1))) 39 (3 * t + 1) = nI b from (by show r3 39 (3 * t + 1) = _; rw [fm3.1 39 (by omega)]; exact k39b), m_faults_t, bd_s]
/-- a name bound on both sides -/
theorem under_x {f x : Nat} {c c1 : jS} {w v : Int32} {b : Nat} (hx : x < 26) (h : xTypist_typeFor f (su c 19 x w) (nI b) = some (v, c1)) : xTypist_typeUnder (f + 1) c (nI x) w (nI b) = some (v, su c1 19 x (c 19 x)) := by
  rw [xTypist_typeUnder_s]
  unfold b_xTypist_typeUnder xTypist_knownOf xTypist_setKnown
  rw [x_isL_t hx, ob_s, if_neg n10, gd_t (ix_nI hx (by decide)), nI_clamp (show x < 2 ^ 31 by omega), ob_s, ob_s, if_neg n10, gd_t (ix_nI hx (by decide)), ltS, bd_s, h, bd_s, x_isL_t hx, ob_s, if_neg n10, gd_t (ix_nI hx (by decide)), ltS, bd_s]
theorem Tw_bind {c r : jS} {T n p x w : Nat} (hW : Tw c r T n) (hx : x < 26) (hw : w < T) (hp : p < 90) : Tw (su c 19 x (nI w)) (su (su r 47 p (r 50 x)) 50 x (nI w)) T n := by
  refine ⟨Ty_r (fun q h1 h2 => by rw [su_ne (by omega)]) rfl (fun q h1 h2 => by rw [su_ne (by omega), su_ne (by omega)]) hW.1, Tm_Y (p := p) (fXY_su fXY.rf (by omega)) (fMY_su (fMY_su fMY.rf (by omega) (by omega) (Or.inl (Nat.le_refl p))) (by omega) (by omega) (Or.inr rfl)) hW.2.1, ?_, hW.2.2.2⟩
  intro z hz
  rw [su_row, su_row]
  by_cases hzx : z = x
  · subst hzx
    rw [upd_s, upd_s]
    exact ⟨rfl, Or.inr ⟨w, hw, rfl⟩⟩
  · rw [upd_n hzx, upd_n hzx]
    exact hW.2.2.1 z hz
theorem m_binds_t {r : jS} {p x : Nat} {w : Int32} (hp : p < 90) (hx : x < 26) : m_binds r (nI p) (nI x) w = some ((), su (su r 47 p (r 50 x)) 50 x w) := by
  unfold m_binds
  rw [gd_t (ix_nI hx (by decide)), gd_t (ix_nI hp (by decide)), ltS, gd_t (ix_nI hx (by decide)), ltS, nI_clamp (show x < 2 ^ 31 by omega), nI_clamp (show p < 2 ^ 31 by omega)]
/-- failure under a binder -/
theorem TR_failB {T p x : Nat} {c c1 r R r1 : jS} {v w u : Int32} (hv : v < 0) (h : TR T (p + 1) (su c 19 x w) R v c1 r1) (fm : fMY T p r R) (h25 : R 30 25 = r 30 25) : TR T p c r v (su c1 19 x u) r1 := by
  obtain ⟨T', a1, a2, a3, a4, a5⟩ := h
  refine ⟨T', a1, Ty_r (fun q h1 h2 => by rw [su_ne (by omega)]) rfl (fun _ _ _ => rfl) a2, fXY_su ((fXY_su (fXY.rf (c := c)) (by omega)).tr (Nat.le_refl T) a3) (by omega), fm.tr (Nat.le_refl T) (Nat.le_succ p) a4, ?_⟩
  have h40 := a2.2.2.2.1
  rcases a5 with ⟨b1, b2, b3, b4, b5⟩ | ⟨b1, b2, b3, b4⟩ | ⟨y, b1, b2, -⟩
  · exact Or.inl ⟨b1, b2, b3, b4.trans h25, b5⟩
  · exact Or.inr (Or.inl ⟨b1, b2, b3, b4⟩)
  · rw [b2] at hv
    exact absurd hv (nI_pos (by omega))
