set_option maxHeartbeats 1000000 in
theorem ty_let {d : Nat} (ih : TyS d) {f t a b x : Nat} {c r : jS} {T n p : Nat} {v2 : Int32} (hW : Tw c r T n) (ht : t < n) (hK : c 6 t = nI 4) (hx : x < 26) (ha : a < t) (hb : b < t) (c8 : c 8 t = nI x) (c10 : c 10 t = nI a) (c11 : c 11 t = nI b) (hda : dpN c a ≤ d) (hdb : dpN c b ≤ d) (hf : 3 * d ≤ f) (hp : p + 1 + d ≤ 90) (hp1 : p + 1 < 90) (h14 : r 30 14 = nI p) (hg : r 30 22 ≠ -3) :
    ∃ (v : Int32) (c' r' : jS), xTypist_typeForLet (f + 2) c (nI t) = some (v, c') ∧ m_type_L67 v2 (psh r p (nI t)) = m_type_L67 v2 r' ∧ TR T p c r v c' r' := by
  have h4 := hW.2.1.2.2.1
  obtain ⟨⟨r35, -, r37, r38, r39, r39b, -⟩, -⟩ := (hW.2.1.2.2.2 t ht).1
  have hW0 := Tw_psh (p := p) (v := nI t) hW
  have E : En (psh r p (nI t)) p t 0 (-2) (-2) (-2) := En_psh
  have hWR : Tw c (su (psh r p (nI t)) 44 p (nI (0 + 1))) T n := Tw_44 hW0
  have ER : En (su (psh r p (nI t)) 44 p (nI (0 + 1))) p t (0 + 1) (-2) (-2) (-2) := En_44 E
  have fm0 : fMY T p r (su (psh r p (nI t)) 44 p (nI (0 + 1))) := fMY_su (fMY_psh fMY.rf (Nat.le_refl p)) (by omega) (by omega) (Or.inl (Nat.le_refl p))
  have hg0 : (psh r p (nI t)) 30 22 ≠ -3 := by rw [psh_5 (by omega)]; exact hg
  have g25 : (su (psh r p (nI t)) 44 p (nI (0 + 1))) 30 25 = r 30 25 := (show (psh r p (nI t)) 30 25 = r 30 25 from psh_5 (by omega))
  have e0 : m_type_L67 v2 (psh r p (nI t)) = m_type_L67 v2 (psh (su (psh r p (nI t)) 44 p (nI (0 + 1))) (p + 1) (nI a)) := by
    refine L67_s ?_
    rw [ty_turn hW0.2.1 ht E (by omega) (by decide) hK hW0.2.2.2 hg0, if_neg (by decide), if_neg (by decide), if_pos (by decide)]
    refine bd_inl ?_
    unfold m_typeOfBinder m_typeOfBinder_P15
    rw [gd_t (ix_nI (by omega) (by decide)), nI_clamp (show t < 2 ^ 31 by omega), show (su (psh r p (nI t)) 44 p (nI (0 + 1))) 35 t = nI 4 from r35.trans hK, if_pos (by decide), gd_t (ix_nI (by omega) (by decide)), if_neg n10, if_pos (by decide), m_p0 hWR.2.1 ht, ob_s, show (su (psh r p (nI t)) 44 p (nI (0 + 1))) 39 (3 * t) = nI a from r39.trans c10, m_push_t ER.1 (by omega), bd_s]
  obtain ⟨v1, c1, r1, q1, q2, q3⟩ := ih (f + 1) a c _ T n (p + 1) v2 hWR (by omega) hda (by omega) hp ER.1 (show (su (psh r p (nI t)) 44 p (nI (0 + 1))) 30 22 ≠ -3 from hg0)
  have el := e0.trans q2
  rw [xTypist_typeForLet_s]
  unfold b_xTypist_typeForLet
  rw [x_firstOf_t hW.2.1.1 h4 ht, ob_s, c10, q1, bd_s]
  by_cases hv : v1 < 0
  · rw [if_neg (nlt0 hv)]
    exact ⟨v1, c1, r1, rfl, el, TR_fail hv q3 fm0 g25⟩
  · obtain ⟨y, T1, hy, hT1, rfl, hW1, fx, fmc, fm, w22, w14, w25, w17, w19, w50⟩ := TR_ok hv hWR q3 fm0
    have h41 := hW1.1.2.2.2.1
    have E1 := En_Y fmc w14 ER
    have up : ∀ {v : Int32} {c' r' : jS}, TR T1 p c1 r1 v c' r' → TR T p c r v c' r' := fun h => TR_seq hT1 fx fm w17 w19 (w50.trans rfl) (w25.trans g25) h
    have k6 : c1 6 t = nI 4 := by rw [fx.1 6 (by omega)]; exact hK
    have hWS : Tw c1 (su r1 44 p (nI (0 + 1 + 1))) T1 n := Tw_44 hW1
    have ES : En (su r1 44 p (nI (0 + 1 + 1))) p t (0 + 1 + 1) (-2) (-2) (-2) := En_44 E1
    have tn := ty_turn (v2 := v2) hW1.2.1 ht E1 (by omega) (by decide) k6 hW1.2.2.2 (by rw [w22]; exact nne3 (by omega))
    generalize hR : su r1 44 p (nI (0 + 1 + 1)) = R at *
    have fmR : fMY T1 p r1 R := by rw [← hR]; exact fMY_su fMY.rf (by omega) (by omega) (Or.inl (Nat.le_refl p))
    have R50 : R 50 = r1 50 := by rw [← hR]; rfl
    have R30 : R 30 = r1 30 := by rw [← hR]; rfl
    have R35 : R 35 t = nI 4 := by rw [fmR.1 35 (by omega), fm.1 35 (by omega)]; exact r35.trans hK
    have R37 : R 37 t = nI x := by rw [fmR.1 37 (by omega), fm.1 37 (by omega)]; exact r37.trans c8
    have R39 : R 39 (3 * t + 1) = nI b := by rw [fmR.1 39 (by omega), fm.1 39 (by omega)]; exact r39b.trans c11
    have hWB := Tw_bind (p := p) hWS hx hy (by omega)
    have fmB : fMY T1 p r1 (su (su R 47 p (R 50 x)) 50 x (nI y)) := fMY_su (fMY_su fmR (by omega) (by omega) (Or.inl (Nat.le_refl p))) (by omega) (by omega) (Or.inr rfl)
    have EB : En (su (su R 47 p (R 50 x)) 50 x (nI y)) p t (0 + 1 + 1) (-2) (-2) (R 50 x) := ⟨ES.1, ES.2.1, ES.2.2.1, ES.2.2.2.1, ES.2.2.2.2.1, (show upd (R 47) p (R 50 x) p = _ from upd_s)⟩
    have e1 : m_type_L67 v2 r1 = m_type_L67 v2 (psh (su (su R 47 p (R 50 x)) 50 x (nI y)) (p + 1) (nI b)) := by
      refine L67_s ?_
      rw [tn, if_neg (by decide), if_neg (by decide), if_pos (by decide)]
      refine bd_inl ?_
      unfold m_typeOfBinder m_typeOfBinder_P15 m_typeOfBinder_P47
      rw [gd_t (ix_nI (by omega) (by decide)), nI_clamp (show t < 2 ^ 31 by omega), R35, if_pos (by decide), gd_t (ix_nI (by omega) (by decide)), if_neg n10, if_neg (by decide), if_neg n10, R37]
      exact P58_bind (k := 1) hWS.2.1 ht hp1 hx ES.1 (Or.inr ⟨rfl, (by rw [R30]; exact w22), rfl⟩) R39
    obtain ⟨v3, c3, r3, s1, s2, s3⟩ := ih f b _ _ T1 n (p + 1) v2 hWB (by omega) (by unfold dpN; rw [su_ne (by omega), fx.1 14 (by omega)]; exact hdb) hf hp EB.1 (show R 30 22 ≠ -3 from (by rw [R30, w22]; exact nne3 (by omega)))
    have el3 := (el.trans e1).trans s2
    rw [if_pos (ge0 hv), x_letterOf_t hW1.2.1.1 h4 ht, ob_s, fx.1 8 (by omega), c8, x_secondOf_t hW1.2.1.1 h4 ht, ob_s, fx.1 11 (by omega), c11, under_x hx s1, bd_s]
    by_cases hv3 : v3 < 0
    · exact ⟨v3, _, r3, rfl, el3, up (TR_failB hv3 s3 fmB (by show R 30 25 = _; rw [R30]))⟩
    · obtain ⟨z, T3, hz, hT3, rfl, hW3, fx3, fmc3, fm3, z22, z14, z25, z17, z19, z50⟩ := TR_ok hv3 hWB s3 fmB
      have h43 := hW3.1.2.2.2.1
      have E3 := En_Y fmc3 z14 EB
      have e3 : m_type_L67 v2 r3 = m_type_L67 v2 (su (su (su (su r3 44 p (nI (0 + 1 + 1 + 1))) 50 x (r3 47 p)) 30 22 (nI z)) 30 14 (nI p)) := by
        refine L67_s ?_
        rw [ty_turn (K := 4) hW3.2.1 ht E3 (by omega) (by decide) (by rw [fx3.1 6 (by omega)]; exact k6) hW3.2.2.2 (by rw [z22]; exact nne3 (by omega)), if_neg (by decide), if_neg (by decide), if_pos (by decide)]
        refine bd_inl ?_
        unfold m_typeOfBinder m_typeOfBinder_P15 m_typeOfBinder_P47
        rw [gd_t (ix_nI (by omega) (by decide)), nI_clamp (show t < 2 ^ 31 by omega), show (su r3 44 p (nI (0 + 1 + 1 + 1))) 35 t = nI 4 from (by show r3 35 t = _; rw [fm3.1 35 (by omega), fm.1 35 (by omega)]; exact r35.trans hK), if_pos (by decide), gd_t (ix_nI (by omega) (by decide)), if_neg n10, if_neg (by decide), if_neg n10, show (su r3 44 p (nI (0 + 1 + 1 + 1))) 37 t = nI x from (by show r3 37 t = _; rw [fm3.1 37 (by omega), fm.1 37 (by omega)]; exact r37.trans c8)]
        unfold m_typeOfBinder_P58
        rw [if_neg (by decide), gd_t (ix_nI (by omega) (by decide)), gd_t (ix_nI hx (by decide)), ltS, if_neg n10, ltS, ltS, nI_clamp (show x < 2 ^ 31 by omega), nI_clamp (show p < 2 ^ 31 by omega), show (su (su r3 44 p (nI (0 + 1 + 1 + 1))) 50 x ((su r3 44 p (nI (0 + 1 + 1 + 1))) 47 p)) 30 22 = nI z from z22, show (su (su (su r3 44 p (nI (0 + 1 + 1 + 1))) 50 x ((su r3 44 p (nI (0 + 1 + 1 + 1))) 47 p)) 30 22 (nI z)) 30 14 = nI (p + 1) from (by rw [su_row, upd_n (by omega)]; exact z14), nI_pred]
        rfl
      refine ⟨nI z, _, _, rfl, el3.trans e3, up ⟨T3, hT3, ?_, fXY_su ((fXY_su (fXY.rf (c := c1)) (by omega)).tr (Nat.le_refl T1) fx3) (by omega), fMY_30 (fMY_30 (fMY_su (fMY_su fm3 (by omega) (by omega) (Or.inl (Nat.le_refl p))) (by omega) (by omega) (Or.inr rfl)) (by omega)) (by omega), Or.inr (Or.inr ⟨z, hz, rfl, ?_, ?_, ?_, ?_, ?_, ?_, ?_⟩)⟩⟩
      · exact Ty_r (fun q h1 h2 => by rw [su_ne (by omega)]) rfl (fun q h1 h2 => by rw [su_ne (by omega), su_ne (by omega), su_ne (by omega), su_ne (by omega)]) hW3.1
      · rw [su_row, upd_n (by omega), su_row, upd_s]
      · rw [su_row, upd_s]
      · rw [su_row, upd_n (by omega), su_row, upd_n (by omega)]; exact hW3.2.2.2
      · rw [su_row, upd_n (by omega), su_row, upd_n (by omega)]; exact z25.trans (by show R 30 25 = _; rw [R30])
      · exact z17
      · rw [su_row, z19, su_row]
        exact upd_back
      · show upd (r3 50) x (r3 47 p) = r1 50
        rw [z50, E3.2.2.2.2.2, su_row]
        show upd (upd (R 50) x (nI y)) x (R 50 x) = _
        rw [R50]
        exact upd_back
theorem ty_sim : ∀ d, TyS d
  | 0 => fun f t c r T n p v2 hW ht hd => absurd (dp_pos hW.2.1 ht) (by omega)
  | d + 1 => by
    have ih := ty_sim d
    intro f t c r T n p v2 hW ht hd hf hp h14 hg
    obtain ⟨f, rfl⟩ : ∃ f', f = f' + 3 := ⟨f - 3, by omega⟩
    have h4 := hW.2.1.2.2.1
    have hk7 : ∀ {k lx ty oa ob od}, Nod c r T t k lx ty oa ob od → xTerms_kindOf c (nI t) = some (nI k) := fun h => by rw [x_kindOf_t hW.2.1.1 h4 ht, h.2.1.1]
    obtain ⟨-, k, lx, ty, oa, ob', od, hN⟩ := hW.2.1.2.2.2 t ht
    obtain ⟨hs, ⟨c6, c8, c9, c10, c11, c12, -⟩, ⟨-, hdp⟩, -, -⟩ := id hN
    have kd := hk7 hN
    have chp : ∀ a, a < t → 1 ≤ dpN c a := fun a ha => dp_pos hW.2.1 (by omega)
    rcases shp_cases hs with ⟨rfl, rfl, rfl, rfl, rfl, rfl⟩ | ⟨rfl, y, hy, rfl, rfl, rfl, rfl, rfl⟩ | ⟨rfl, y, w, a, hy, hw, ha, rfl, rfl, rfl, rfl, rfl⟩ | ⟨rfl, a, b, ha, hb, rfl, rfl, rfl, rfl, rfl⟩ | ⟨rfl, y, a, b, hy, ha, hb, rfl, rfl, rfl, rfl, rfl⟩ | ⟨rfl, a, b, ha, hb, rfl, rfl, rfl, rfl, rfl⟩ | ⟨rfl, a, b, e, ha, hb, he, rfl, rfl, rfl, rfl, rfl⟩
    · exact ty_leaf (d := d) hW ht (by omega) h14 hg (Or.inl c6)
    · exact ty_leaf (d := d) hW ht (by omega) h14 hg (Or.inr c6)
    · simp [oz] at hdp
      have := chp a ha
      obtain ⟨v, c', r', q1, q2, q3⟩ := ty_fun ih (f := f) (v2 := v2) hW ht c6 hy hw ha c8 c9 c10 (by omega) (by omega) (by omega) (by omega) h14 hg
      refine ⟨v, c', r', ?_, q2, q3⟩
      rw [xTypist_typeFor_s]
      unfold b_xTypist_typeFor
      rw [kd, ob_s, if_neg (by decide), if_neg (by decide), if_pos (by decide), q1, bd_s]
    · simp [oz] at hdp
      have := chp a ha
      obtain ⟨v, c', r', q1, q2, q3⟩ := ty_call ih (f := f) (v2 := v2) hW ht c6 ha hb c10 c11 (by omega) (by omega) (by omega) (by omega) (by omega) h14 hg
      refine ⟨v, c', r', ?_, q2, q3⟩
      rw [xTypist_typeFor_s]
      unfold b_xTypist_typeFor
      rw [kd, ob_s, if_neg (by decide), if_neg (by decide), if_neg (by decide), if_pos (by decide), q1, bd_s]
    · simp [oz] at hdp
      have := chp a ha
      obtain ⟨v, c', r', q1, q2, q3⟩ := ty_let ih (f := f) (v2 := v2) hW ht c6 hy ha hb c8 c10 c11 (by omega) (by omega) (by omega) (by omega) (by omega) h14 hg
      refine ⟨v, c', r', ?_, q2, q3⟩
      rw [xTypist_typeFor_s]
      unfold b_xTypist_typeFor
      rw [kd, ob_s, if_neg (by decide), if_neg (by decide), if_neg (by decide), if_neg (by decide), if_pos (by decide), q1, bd_s]
    · simp [oz] at hdp
      have := chp a ha
      obtain ⟨v, c', r', q1, q2, q3⟩ := ty_sum ih (f := f) (v2 := v2) hW ht c6 ha hb c10 c11 (by omega) (by omega) (by omega) (by omega) (by omega) h14 hg
      refine ⟨v, c', r', ?_, q2, q3⟩
      rw [xTypist_typeFor_s]
      unfold b_xTypist_typeFor
      rw [kd, ob_s, if_neg (by decide), if_neg (by decide), if_neg (by decide), if_neg (by decide), if_neg (by decide), if_pos (by decide), q1, bd_s]
    · simp [oz] at hdp
      have := chp a ha
      obtain ⟨v, c', r', q1, q2, q3⟩ := ty_choice ih (f := f) (v2 := v2) hW ht c6 ha hb he c10 c11 c12 (by omega) (by omega) (by omega) (by omega) (by omega) (by omega) h14 hg
      refine ⟨v, c', r', ?_, q2, q3⟩
      rw [xTypist_typeFor_s]
      unfold b_xTypist_typeFor
      rw [kd, ob_s, if_neg (by decide), if_neg (by decide), if_neg (by decide), if_neg (by decide), if_neg (by decide), if_neg (by decide), if_pos (by decide), q1, bd_s]
