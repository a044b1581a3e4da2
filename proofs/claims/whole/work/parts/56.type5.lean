theorem P58_bind {R c : jS} {T n p t x q k : Nat} {v4 s w : Int32} (hM : Tm c R T n) (ht : t < n) (hp : p + 1 < 90) (hx : x < 26) (h14 : R 30 14 = nI (p + 1)) (hk : (v4 = 0 ∧ R 38 t = w ∧ k = 0) ∨ (v4 = 1 ∧ R 30 22 = w ∧ k = 1)) (hq : R 39 (3 * t + k) = nI q) :
    m_typeOfBinder_P58 (nI p) (nI t) v4 (nI x) s s R = some ((), psh (su (su R 47 p (R 50 x)) 50 x w) (p + 1) (nI q)) := by
  have h4 := hM.2.2.1
  have hM2 : Tm c (su (su R 47 p (R 50 x)) 50 x w) T n := Tm_r (AgM_su (AgM_su AgM.rf (by omega)) (by omega)) rfl hM
  unfold m_typeOfBinder_P58 m_typeOfBinder_P83
  rw [if_pos rfl]
  rcases hk with ⟨rfl, hw, rfl⟩ | ⟨rfl, hw, rfl⟩
  · rw [if_pos rfl, gd_t (ix_nI (by omega) (by decide)), nI_clamp (show t < 2 ^ 31 by omega), hw, m_binds_t (by omega) hx, bd_s, if_pos rfl, m_p0 hM2 ht, ob_s, show (su (su R 47 p (R 50 x)) 50 x w) 39 (3 * t) = nI q from hq, m_push_t (show (su (su R 47 p (R 50 x)) 50 x w) 30 14 = nI (p + 1) from h14) hp, bd_s]
  · rw [if_neg n10, hw, m_binds_t (by omega) hx, bd_s, if_neg n10, m_p1 hM2 ht, ob_s, show (su (su R 47 p (R 50 x)) 50 x w) 39 (3 * t + 1) = nI q from hq, m_push_t (show (su (su R 47 p (R 50 x)) 50 x w) 30 14 = nI (p + 1) from h14) hp, bd_s]
set_option maxHeartbeats 1000000 in
theorem ty_fun {d : Nat} (ih : TyS d) {f t a x w : Nat} {c r : jS} {T n p : Nat} {v2 : Int32} (hW : Tw c r T n) (ht : t < n) (hK : c 6 t = nI 2) (hx : x < 26) (hw : w < T) (ha : a < t) (c8 : c 8 t = nI x) (c9 : c 9 t = nI w) (c10 : c 10 t = nI a) (hda : dpN c a ≤ d) (hf : 3 * d ≤ f) (hp : p + 1 + d ≤ 90) (hp1 : p + 1 < 90) (h14 : r 30 14 = nI p) (hg : r 30 22 ≠ -3) :
    ∃ (v : Int32) (c' r' : jS), xTypist_typeForFunction (f + 2) c (nI t) = some (v, c') ∧ m_type_L67 v2 (psh r p (nI t)) = m_type_L67 v2 r' ∧ TR T p c r v c' r' := by
  have h4 := hW.2.1.2.2.1
  obtain ⟨⟨r35, -, r37, r38, r39, r39b, -⟩, -⟩ := (hW.2.1.2.2.2 t ht).1
  have hW0 := Tw_psh (p := p) (v := nI t) hW
  have E : En (psh r p (nI t)) p t 0 (-2) (-2) (-2) := En_psh
  have hWR : Tw c (su (psh r p (nI t)) 44 p (nI (0 + 1))) T n := Tw_44 hW0
  have ER : En (su (psh r p (nI t)) 44 p (nI (0 + 1))) p t (0 + 1) (-2) (-2) (-2) := En_44 E
  have hg0 : (psh r p (nI t)) 30 22 ≠ -3 := by rw [psh_5 (by omega)]; exact hg
  generalize hR : su (psh r p (nI t)) 44 p (nI (0 + 1)) = R at *
  have fmR : fMY T p r R := by rw [← hR]; exact fMY_su (fMY_psh fMY.rf (Nat.le_refl p)) (by omega) (by omega) (Or.inl (Nat.le_refl p))
  have R50 : R 50 = r 50 := by rw [← hR]; rfl
  have R25 : R 30 25 = r 30 25 := by rw [← hR]; exact (show (psh r p (nI t)) 30 25 = r 30 25 from psh_5 (by omega))
  have R22 : R 30 22 ≠ -3 := by rw [← hR]; exact hg0
  have R35 : R 35 t = nI 2 := by rw [fmR.1 35 (by omega)]; exact r35.trans hK
  have R37 : R 37 t = nI x := by rw [fmR.1 37 (by omega)]; exact r37.trans c8
  have R38 : R 38 t = nI w := by rw [fmR.1 38 (by omega)]; exact r38.trans c9
  have R39 : R 39 (3 * t) = nI a := by rw [fmR.1 39 (by omega)]; exact r39.trans c10
  have hWB := Tw_bind (p := p) hWR hx hw (by omega)
  have fmB : fMY T p r (su (su R 47 p (R 50 x)) 50 x (nI w)) := fMY_su (fMY_su fmR (by omega) (by omega) (Or.inl (Nat.le_refl p))) (by omega) (by omega) (Or.inr rfl)
  have EB : En (su (su R 47 p (R 50 x)) 50 x (nI w)) p t (0 + 1) (-2) (-2) (R 50 x) := ⟨ER.1, ER.2.1, ER.2.2.1, ER.2.2.2.1, ER.2.2.2.2.1, (show upd (R 47) p (R 50 x) p = _ from upd_s)⟩
  have e0 : m_type_L67 v2 (psh r p (nI t)) = m_type_L67 v2 (psh (su (su R 47 p (R 50 x)) 50 x (nI w)) (p + 1) (nI a)) := by
    refine L67_s ?_
    rw [ty_turn hW0.2.1 ht E (by omega) (by decide) hK hW0.2.2.2 hg0, if_neg (by decide), if_neg (by decide), if_pos (by decide), hR]
    refine bd_inl ?_
    unfold m_typeOfBinder m_typeOfBinder_P15 m_typeOfBinder_P47
    rw [gd_t (ix_nI (by omega) (by decide)), nI_clamp (show t < 2 ^ 31 by omega), R35, if_neg (by decide), gd_t (ix_nI (by omega) (by decide)), if_pos rfl, if_pos rfl, R37]
    exact P58_bind (k := 0) hWR.2.1 ht hp1 hx ER.1 (Or.inl ⟨rfl, R38, rfl⟩) R39
  obtain ⟨v1, c1, r1, q1, q2, q3⟩ := ih f a _ _ T n (p + 1) v2 hWB (by omega) hda hf hp EB.1 (show R 30 22 ≠ -3 from R22)
  have el := e0.trans q2
  rw [xTypist_typeForFunction_s]
  unfold b_xTypist_typeForFunction
  rw [x_typeOf_t hW.2.1.1 h4 ht, ob_s, c9, x_letterOf_t hW.2.1.1 h4 ht, ob_s, c8, x_firstOf_t hW.2.1.1 h4 ht, ob_s, c10, under_x hx q1, bd_s]
  by_cases hv : v1 < 0
  · rw [if_neg (nlt0 hv)]
    exact ⟨v1, _, r1, rfl, el, TR_failB hv q3 fmB R25⟩
  · obtain ⟨y, T1, hy, hT1, rfl, hW1, fx, fmc, fm, w22, w14, w25, w17, w19, w50⟩ := TR_ok hv hWB q3 fmB
    have h41 := hW1.1.2.2.2.1
    have E1 := En_Y fmc w14 EB
    rw [if_pos (ge0 hv)]
    -- the binding goes
    have c19 : (su c1 19 x (c 19 x)) 19 = c 19 := by
      rw [su_row, w19, su_row]
      exact upd_back
    have fx1 : fXY T c (su c1 19 x (c 19 x)) := fXY_su ((fXY_su (fXY.rf (c := c)) (by omega)).tr (Nat.le_refl T) fx) (by omega)
    have b50 : (su (su r1 44 p (nI (0 + 1 + 1))) 50 x (r1 47 p)) 50 = r 50 := by
      rw [su_row]
      show upd (r1 50) x (r1 47 p) = r 50
      rw [w50, E1.2.2.2.2.2, su_row]
      show upd (upd (R 50) x (nI w)) x (R 50 x) = _
      rw [R50]
      exact upd_back
    have fm1 : fMY T p r (su (su r1 44 p (nI (0 + 1 + 1))) 50 x (r1 47 p)) := fMY_su (fMY_su fm (by omega) (by omega) (Or.inl (Nat.le_refl p))) (by omega) (by omega) (Or.inr rfl)
    have hY1 : Ty (su c1 19 x (c 19 x)) (su (su r1 44 p (nI (0 + 1 + 1))) 50 x (r1 47 p)) T1 := Ty_r (fun q h1 h2 => by rw [su_ne (by omega)]) rfl (fun q h1 h2 => by rw [su_ne (by omega), su_ne (by omega)]) hW1.1
    obtain ⟨v, c2, r2, a1, a2, T2, hT2, hY2, fxT, fmT, hres⟩ := ARW hY1 (show w < T1 by omega) hy
    rw [a1, bd_s]
    have h42 := hY2.2.2.2.1
    have e1 : m_type_L67 v2 r1 = m_type_L67 v2 (su (su r2 30 22 v) 30 14 (nI p)) := by
      refine L67_s ?_
      rw [ty_turn (K := 2) hW1.2.1 ht E1 (by omega) (by decide) (by rw [fx.1 6 (by omega)]; exact hK) hW1.2.2.2 (by rw [w22]; exact nne3 (by omega)), if_neg (by decide), if_neg (by decide), if_pos (by decide)]
      refine bd_inl ?_
      unfold m_typeOfBinder m_typeOfBinder_P15 m_typeOfBinder_P47
      rw [gd_t (ix_nI (by omega) (by decide)), nI_clamp (show t < 2 ^ 31 by omega), show (su r1 44 p (nI (0 + 1 + 1))) 35 t = nI 2 from (by show r1 35 t = _; rw [fm.1 35 (by omega)]; exact r35.trans hK), if_neg (by decide), gd_t (ix_nI (by omega) (by decide)), if_pos rfl, if_pos rfl, show (su r1 44 p (nI (0 + 1 + 1))) 37 t = nI x from (by show r1 37 t = _; rw [fm.1 37 (by omega)]; exact r37.trans c8)]
      unfold m_typeOfBinder_P58
      rw [if_neg (by decide), gd_t (ix_nI (by omega) (by decide)), gd_t (ix_nI hx (by decide)), ltS, if_pos rfl, gd_t (ix_nI (by omega) (by decide)), nI_clamp (show t < 2 ^ 31 by omega), nI_clamp (show x < 2 ^ 31 by omega), nI_clamp (show p < 2 ^ 31 by omega)]
      rw [show (su (su r1 44 p (nI (0 + 1 + 1))) 50 x ((su r1 44 p (nI (0 + 1 + 1))) 47 p)) 38 t = nI w from (by show r1 38 t = _; rw [fm.1 38 (by omega)]; exact r38.trans c9), show (su (su r1 44 p (nI (0 + 1 + 1))) 50 x ((su r1 44 p (nI (0 + 1 + 1))) 47 p)) 30 22 = nI y from w22, show m_arrowOf (su (su r1 44 p (nI (0 + 1 + 1))) 50 x ((su r1 44 p (nI (0 + 1 + 1))) 47 p)) (nI w) (nI y) = some (v, r2) from a2, bd_s, ltS, ltS, show (su r2 30 22 v) 30 14 = nI (p + 1) from (by rw [su_row, upd_n (by omega), fmT.2.1 14 (by omega)]; exact w14), nI_pred]
    have hYR : Ty c2 (su (su r2 30 22 v) 30 14 (nI p)) T2 := Ty_r (fun _ _ _ => rfl) rfl (fun q h1 h2 => by rw [su_ne (by omega), su_ne (by omega)]) hY2
    have fx2 : fXY T c c2 := fx1.tr hT1 (fXY_T fxT)
    have fm2 : fMY T p r (su (su r2 30 22 v) 30 14 (nI p)) := fm1.tr hT1 (Nat.le_refl p) (fMY_30 (fMY_30 (fMY_T fmT) (by omega)) (by omega))
    have f22 : (su (su r2 30 22 v) 30 14 (nI p)) 30 22 = v := by rw [su_row, upd_n (by omega), su_row, upd_s]
    have f24 : (su (su r2 30 22 v) 30 14 (nI p)) 30 24 = 0 := by rw [su_row, upd_n (by omega), su_row, upd_n (by omega), fmT.2.1 24 (by omega)]; exact hW1.2.2.2
    have f25 : (su (su r2 30 22 v) 30 14 (nI p)) 30 25 = r 30 25 := by rw [su_row, upd_n (by omega), su_row, upd_n (by omega), fmT.2.1 25 (by omega)]; exact w25.trans R25
    have f17 : c2 17 = c 17 := by rw [fxT.1 17 (by omega)]; exact w17
    refine ⟨v, c2, _, rfl, el.trans e1, T2, by omega, hYR, fx2, fm2, ?_⟩
    rcases hres with ⟨rfl, -⟩ | ⟨z, -, hz, rfl⟩
    · exact Or.inl ⟨rfl, f22, f24, f25, f17⟩
    · refine Or.inr (Or.inr ⟨z, hz, rfl, f22, by rw [su_row, upd_s], f24, f25, f17, ?_, ?_⟩)
      · rw [fxT.1 19 (by omega)]; exact c19
      · show r2 50 = r 50
        rw [fmT.1 50 (by omega)]; exact b50
