def TyS (d : Nat) : Prop := ∀ (f t : Nat) (c r : jS) (T n p : Nat) (v2 : Int32), Tw c r T n → t < n → dpN c t ≤ d → 3 * d ≤ f → p + d ≤ 90 → r 30 14 = nI p → r 30 22 ≠ -3 →
  ∃ (v : Int32) (c' r' : jS), xTypist_typeFor f c (nI t) = some (v, c') ∧ m_type_L67 v2 (psh r p (nI t)) = m_type_L67 v2 r' ∧ TR T p c r v c' r'
theorem fMY_dn {T p : Nat} {r r' : jS} (h : fMY T (p + 1) r r') : fMY T p r r' := ⟨h.1, h.2.1, h.2.2.1, fun q h1 h2 i hi => h.2.2.2 q h1 h2 i (by omega)⟩
theorem En_Y {T p t s : Nat} {r r' : jS} {A B C : Int32} (h : fMY T (p + 1) r r') (h14 : r' 30 14 = nI (p + 1)) (E : En r p t s A B C) : En r' p t s A B C := by
  obtain ⟨-, e2, e3, e4, e5, e6⟩ := E
  exact ⟨h14, by rw [h.2.2.2 43 (by omega) (by omega) p (by omega)]; exact e2, by rw [h.2.2.2 44 (by omega) (by omega) p (by omega)]; exact e3, by rw [h.2.2.2 45 (by omega) (by omega) p (by omega)]; exact e4, by rw [h.2.2.2 46 (by omega) (by omega) p (by omega)]; exact e5, by rw [h.2.2.2 47 (by omega) (by omega) p (by omega)]; exact e6⟩
/-- a child's failure is the whole's -/
theorem TR_fail {T p : Nat} {c c1 r R r1 : jS} {v : Int32} (hv : v < 0) (h : TR T (p + 1) c R v c1 r1) (fm : fMY T p r R) (h25 : R 30 25 = r 30 25) : TR T p c r v c1 r1 := by
  obtain ⟨T', a1, a2, a3, a4, a5⟩ := h
  refine ⟨T', a1, a2, a3, fm.tr (Nat.le_refl T) (Nat.le_succ p) a4, ?_⟩
  have h40 := a2.2.2.2.1
  rcases a5 with ⟨b1, b2, b3, b4, b5⟩ | b | ⟨y, b1, b2, -⟩
  · exact Or.inl ⟨b1, b2, b3, b4.trans h25, b5⟩
  · exact Or.inr (Or.inl b)
  · rw [b2] at hv
    exact absurd hv (nI_pos (by omega))
theorem TR_ok {T p : Nat} {c c1 r R r1 : jS} {v : Int32} {n : Nat} (hv : ¬ v < 0) (hW : Tw c R T n) (h : TR T (p + 1) c R v c1 r1) (fm : fMY T p r R) :
    ∃ y T1, y < T1 ∧ T ≤ T1 ∧ v = nI y ∧ Tw c1 r1 T1 n ∧ fXY T c c1 ∧ fMY T (p + 1) R r1 ∧ fMY T p r r1 ∧ r1 30 22 = nI y ∧ r1 30 14 = nI (p + 1) ∧ r1 30 25 = R 30 25 ∧ c1 17 = c 17 ∧ c1 19 = c 19 ∧ r1 50 = R 50 := by
  obtain ⟨T', a1, a2, a3, a4, a5⟩ := h
  rcases a5 with ⟨rfl, -⟩ | ⟨rfl, -⟩ | ⟨y, b1, b2, b3, b4, b5, b6, b7, b8, b9⟩
  · exact absurd (by decide) hv
  · exact absurd (by decide) hv
  · exact ⟨y, T', b1, a1, b2, Tw_next hW a1 a2 a3 a4 b8 b9 b5, a3, a4, fm.tr (Nat.le_refl T) (Nat.le_succ p) a4, b3, b4, b6, b7, b8, b9⟩
theorem tti {f : Nat} {c c' : jS} {w v : Int32} {a : Nat} (h : xTypist_typeFor f c (nI a) = some (v, c')) : xTypist_typeThatIs (f + 1) c w (nI a) = if v < 0 then some (v, c') else if v = w then some (v, c') else some (-2, flX c' 3 a) := by
  rw [xTypist_typeThatIs_s]
  unfold b_xTypist_typeThatIs
  rw [h, bd_s, x_faulty, bd_s]
theorem nlt0 {v : Int32} (h : v < 0) : ¬ 0 ≤ v := by
  rw [Int32.le_iff_toInt_le]
  rw [Int32.lt_iff_toInt_lt] at h
  omega
theorem ge0 {v : Int32} (h : ¬ v < 0) : 0 ≤ v := by
  rw [Int32.le_iff_toInt_le]
  rw [Int32.lt_iff_toInt_lt] at h
  omega
theorem Tw_r {c r r' : jS} {T n p : Nat} (hW : Tw c r T n) (fm : fMY T p r r') (h0 : r' 30 0 = r 30 0) (h3 : ∀ q, 31 ≤ q → q ≤ 33 → r' q = r q) (h50 : r' 50 = r 50) (h24 : r' 30 24 = r 30 24) : Tw c r' T n :=
  ⟨Ty_r (fun _ _ _ => rfl) h0 h3 hW.1, Tm_Y fXY.rf fm hW.2.1, fun x hx => by rw [h50]; exact hW.2.2.1 x hx, h24.trans hW.2.2.2⟩
theorem Tw_44 {c r : jS} {T n p : Nat} {v : Int32} (hW : Tw c r T n) : Tw c (su r 44 p v) T n :=
  Tw_r (p := p) hW (fMY_su fMY.rf (by omega) (by omega) (Or.inl (Nat.le_refl p))) rfl (fun q h1 h2 => by rw [su_ne (by omega)]) rfl rfl
theorem En_44 {r : jS} {p t s s' : Nat} {A B C : Int32} (E : En r p t s A B C) : En (su r 44 p (nI s')) p t s' A B C :=
  ⟨E.1, E.2.1, by rw [su_row, upd_s], E.2.2.2.1, E.2.2.2.2.1, E.2.2.2.2.2⟩
theorem Tw_psh {c r : jS} {T n p : Nat} {v : Int32} (hW : Tw c r T n) : Tw c (psh r p v) T n :=
  Tw_r (p := p) hW (fMY_psh fMY.rf (Nat.le_refl p)) (psh_5 (by omega)) (fun q h1 h2 => by unfold psh; rw [su_ne (by omega), su_ne (by omega), su_ne (by omega), su_ne (by omega), su_ne (by omega), su_ne (by omega)]) rfl (psh_5 (by omega))
theorem bd_inl {v2 : Int32} {x : Option (Unit × jS)} {r' : jS} (h : x = some ((), r')) : (bd x (fun _ c9 => some (Sum.inl (v2, c9))) : Option ((Int32 × jS) ⊕ (Int32 × jS))) = some (Sum.inl (v2, r')) := by rw [h]; rfl
/-- a number, a name -/
theorem ty_leaf {d f : Nat} {t : Nat} {c r : jS} {T n p : Nat} {v2 : Int32} (hW : Tw c r T n) (ht : t < n) (hp : p < 90) (h14 : r 30 14 = nI p) (hg : r 30 22 ≠ -3) (hk : c 6 t = nI 0 ∨ c 6 t = nI 1) :
    ∃ (v : Int32) (c' r' : jS), xTypist_typeFor (f + 1) c (nI t) = some (v, c') ∧ m_type_L67 v2 (psh r p (nI t)) = m_type_L67 v2 r' ∧ TR T p c r v c' r' := by
  have h4 := hW.2.1.2.2.1
  have h40 := hW.1.2.2.2.1
  have hW0 := Tw_psh (p := p) (v := nI t) hW
  have E : En (psh r p (nI t)) p t 0 (-2) (-2) (-2) := En_psh
  have fm0 : fMY T p r (psh r p (nI t)) := fMY_psh fMY.rf (Nat.le_refl p)
  have g25 : (psh r p (nI t)) 30 25 = r 30 25 := psh_5 (by omega)
  have hg0 : (psh r p (nI t)) 30 22 ≠ -3 := by rw [psh_5 (by omega)]; exact hg
  rw [xTypist_typeFor_s]
  unfold b_xTypist_typeFor
  rw [x_kindOf_t hW.2.1.1 h4 ht, ob_s]
  rcases hk with hk | hk
  · have e := L67_s (v2 := v2) ((ty_turn hW0.2.1 ht E hp (by decide) hk hW0.2.2.2 hg0).trans (if_pos rfl))
    rw [hk, if_pos (by decide)]
    refine ⟨0, c, _, rfl, e, T, Nat.le_refl T, ?_, fXY.rf, fMY_30 (fMY_30 (fMY_su fm0 (by omega) (by omega) (Or.inl (Nat.le_refl p))) (by omega)) (by omega), Or.inr (Or.inr ⟨0, hW.1.2.2.1, rfl, ?_, ?_, ?_, ?_, rfl, rfl, rfl⟩)⟩
    · exact Ty_r (fun _ _ _ => rfl) rfl (fun q h1 h2 => by rw [su_ne (by omega), su_ne (by omega), su_ne (by omega)]) hW0.1
    · rw [su_row, upd_n (by omega), su_row, upd_s]; rfl
    · rw [su_row, upd_s]
    · rw [su_row, upd_n (by omega), su_row, upd_n (by omega)]; exact hW0.2.2.2
    · rw [su_row, upd_n (by omega), su_row, upd_n (by omega)]; exact g25
  · obtain ⟨-, k, lx, ty, oa, ob, od, hs, ⟨c6, c8, -⟩, -⟩ := hW.2.1.2.2.2 t ht
    have e1 : k = 1 := by rw [c6] at hk; exact (nI_eq (by have := hs.1; omega) (by decide)).mp hk
    subst e1
    obtain ⟨x, hx, rfl, rfl, rfl, rfl, rfl⟩ := shp_1 hs
    have c8' : c 8 t = nI x := c8
    have tt := ty_turn (v2 := v2) hW0.2.1 ht E hp (by decide) hk hW0.2.2.2 hg0
    rw [if_neg (by decide), if_pos rfl, c8', gd_t (ix_nI hx (by decide)), nI_clamp (show x < 2 ^ 31 by omega), show (psh r p (nI t)) 50 x = c 19 x from (hW.2.2.1 x hx).1] at tt
    rw [hk, if_neg (by decide), if_pos (by decide)]
    unfold xTypist_typeForName xTypist_knownOf
    rw [x_letterOf_t hW.2.1.1 h4 ht, ob_s, c8', x_isL_t hx, ob_s, if_neg n10, gd_t (ix_nI hx (by decide)), nI_clamp (show x < 2 ^ 31 by omega), ob_s]
    rcases (hW.2.2.1 x hx).2 with q | ⟨y, hy, q⟩
    · rw [if_pos q] at tt
      refine ⟨-2, flX c 1 t, _, ?_, L67_s tt, TR_fault ?_ (fMY_30 (fMY_30 (fMY_su fm0 (by omega) (by omega) (Or.inl (Nat.le_refl p))) (by omega)) (by omega)) (by decide)⟩
      · rw [q, if_neg (by decide), x_faulty, bd_s, bd_s]
      · exact Ty_r (fun _ _ _ => rfl) rfl (fun q h1 h2 => by rw [su_ne (by omega), su_ne (by omega), su_ne (by omega)]) hW0.1
    · rw [if_neg (by rw [q]; exact nI_ne (by omega) (by decide))] at tt
      refine ⟨nI y, c, _, ?_, L67_s tt, T, Nat.le_refl T, ?_, fXY.rf, fMY_30 (fMY_30 (fMY_su fm0 (by omega) (by omega) (Or.inl (Nat.le_refl p))) (by omega)) (by omega), Or.inr (Or.inr ⟨y, hy, rfl, ?_, ?_, ?_, ?_, rfl, rfl, rfl⟩)⟩
      · rw [q, if_pos (nI_pos' (by omega)), bd_s]
      · exact Ty_r (fun _ _ _ => rfl) rfl (fun q h1 h2 => by rw [su_ne (by omega), su_ne (by omega), su_ne (by omega)]) hW0.1
      · rw [su_row, upd_n (by omega), su_row, upd_s]; exact q
      · rw [su_row, upd_s]
      · rw [su_row, upd_n (by omega), su_row, upd_n (by omega)]; exact hW0.2.2.2
      · rw [su_row, upd_n (by omega), su_row, upd_n (by omega)]; exact g25
theorem m_p0 {c r : jS} {T n t : Nat} (hM : Tm c r T n) (ht : t < n) : m_part r (nI t) 0 = some (r 39 (3 * t)) := m_part_t (k := 0) hM ht (by omega)
theorem m_p1 {c r : jS} {T n t : Nat} (hM : Tm c r T n) (ht : t < n) : m_part r (nI t) 1 = some (r 39 (3 * t + 1)) := m_part_t (k := 1) hM ht (by omega)
theorem m_p2 {c r : jS} {T n t : Nat} (hM : Tm c r T n) (ht : t < n) : m_part r (nI t) 2 = some (r 39 (3 * t + 2)) := m_part_t (k := 2) hM ht (by omega)
theorem tm_num {R : jS} {p t s K : Nat} (hk : K = 5 ∨ K = 6) (ht : t < 400) (h35 : R 35 t = nI K) : m_typeOfNumbers R (nI p) (nI t) (nI s) = m_typeOfNumbers_P16 (nI p) (nI t) (nI s) (if K = 6 then 1 else 0) R := by
  unfold m_typeOfNumbers
  rw [gd_t (ix_nI (by omega) (by decide)), nI_clamp (show t < 2 ^ 31 by omega), h35]
  rcases hk with rfl | rfl
  · rw [if_neg (by decide), if_neg (by decide)]
  · rw [if_pos (by decide), if_pos rfl]
/-- the first part of a sum, of a choice: INT -/
theorem ty_num0 {d : Nat} (ih : TyS d) {f t a K : Nat} {c r : jS} {T n p : Nat} {v2 : Int32} (hW : Tw c r T n) (ht : t < n) (hK : c 6 t = nI K) (hk : K = 5 ∨ K = 6) (ha : a < t) (c10 : c 10 t = nI a) (hd : dpN c a ≤ d) (hf : 3 * d ≤ f) (hp : p + 1 + d ≤ 90) (hp1 : p + 1 < 90) (h14 : r 30 14 = nI p) (hg : r 30 22 ≠ -3) :
    ∃ (v1 : Int32) (c1 r1 : jS), xTypist_typeThatIs (f + 1) c 0 (nI a) = some (v1, c1) ∧ m_type_L67 v2 (psh r p (nI t)) = m_type_L67 v2 r1 ∧
      ((v1 < 0 ∧ TR T p c r v1 c1 r1) ∨ (v1 = 0 ∧ ∃ T1, T ≤ T1 ∧ Tw c1 r1 T1 n ∧ fXY T c c1 ∧ fMY T p r r1 ∧ En r1 p t 1 (-2) (-2) (-2) ∧ r1 30 22 = 0 ∧ r1 30 25 = r 30 25 ∧ c1 17 = c 17 ∧ c1 19 = c 19 ∧ r1 50 = r 50)) := by
  have h4 := hW.2.1.2.2.1
  have hK7 : K < 7 := by omega
  obtain ⟨⟨r35, -, -, -, r39, -⟩, -⟩ := (hW.2.1.2.2.2 t ht).1
  have hW0 := Tw_psh (p := p) (v := nI t) hW
  have E : En (psh r p (nI t)) p t 0 (-2) (-2) (-2) := En_psh
  have hWR : Tw c (su (psh r p (nI t)) 44 p (nI (0 + 1))) T n := Tw_44 hW0
  have ER : En (su (psh r p (nI t)) 44 p (nI (0 + 1))) p t (0 + 1) (-2) (-2) (-2) := En_44 E
  have fm0 : fMY T p r (su (psh r p (nI t)) 44 p (nI (0 + 1))) := fMY_su (fMY_psh fMY.rf (Nat.le_refl p)) (by omega) (by omega) (Or.inl (Nat.le_refl p))
  have hg0 : (psh r p (nI t)) 30 22 ≠ -3 := by rw [psh_5 (by omega)]; exact hg
  have g25 : (su (psh r p (nI t)) 44 p (nI (0 + 1))) 30 25 = r 30 25 := (show (psh r p (nI t)) 30 25 = r 30 25 from psh_5 (by omega))
  have e0 : m_type_L67 v2 (psh r p (nI t)) = m_type_L67 v2 (psh (su (psh r p (nI t)) 44 p (nI (0 + 1))) (p + 1) (nI a)) := by
    refine L67_s ?_
    rw [ty_turn hW0.2.1 ht E (by omega) hK7 hK hW0.2.2.2 hg0, if_neg (by omega), if_neg (by omega), if_neg (by omega), if_neg (by omega)]
    refine bd_inl ?_
    rw [tm_num (R := su (psh r p (nI t)) 44 p (nI (0 + 1))) hk (by omega) (r35.trans hK)]
    unfold m_typeOfNumbers_P16
    rw [if_pos (by decide), m_p0 hWR.2.1 ht, ob_s, show (su (psh r p (nI t)) 44 p (nI (0 + 1))) 39 (3 * t) = nI a from r39.trans c10, m_push_t ER.1 (by omega), bd_s]
  obtain ⟨v1, c1, r1, q1, q2, q3⟩ := ih f a c _ T n (p + 1) v2 hWR (by omega) hd hf hp ER.1 (show (su (psh r p (nI t)) 44 p (nI (0 + 1))) 30 22 ≠ -3 from hg0)
  have el := e0.trans q2
  by_cases hv : v1 < 0
  · exact ⟨v1, c1, r1, by rw [tti q1, if_pos hv], el, Or.inl ⟨hv, TR_fail hv q3 fm0 g25⟩⟩
  · obtain ⟨y, T1, hy, hT1, rfl, hW1, fx, fmc, fm, w22, w14, w25, w17, w19, w50⟩ := TR_ok hv hWR q3 fm0
    have h41 := hW1.1.2.2.2.1
    have E1 := En_Y fmc w14 ER
    by_cases hy0 : y = 0
    · subst hy0
      exact ⟨0, c1, r1, by rw [tti q1, if_neg hv, if_pos (show nI 0 = (0 : Int32) from rfl)]; rfl, el, Or.inr ⟨rfl, T1, hT1, hW1, fx, fm, E1, w22, w25.trans g25, w17, w19, w50.trans rfl⟩⟩
    · have hne : ¬ nI y = (0 : Int32) := nI_ne0 (by omega) (by omega)
      have h1 : m_type_L67 v2 r1 = m_type_L67 v2 (flM (su r1 44 p (nI (0 + 1 + 1))) 3 a) := by
        refine L67_s ?_
        rw [ty_turn hW1.2.1 ht E1 (by omega) hK7 (by rw [fx.1 6 (by omega)]; exact hK) hW1.2.2.2 (by rw [w22]; exact nne3 (by omega)), if_neg (by omega), if_neg (by omega), if_neg (by omega), if_neg (by omega)]
        refine bd_inl ?_
        have hM2 : Tm c1 (su r1 44 p (nI (0 + 1 + 1))) T1 n := (Tw_44 hW1).2.1
        rw [tm_num (R := su r1 44 p (nI (0 + 1 + 1))) hk (by omega) (show r1 35 t = nI K from (by rw [fm.1 35 (by omega)]; exact r35.trans hK))]
        unfold m_typeOfNumbers_P16
        rw [if_neg (by decide), if_pos (by decide), show (su r1 44 p (nI (0 + 1 + 1))) 30 22 = nI y from w22, if_neg hne, m_p0 hM2 ht, ob_s, show (su r1 44 p (nI (0 + 1 + 1))) 39 (3 * t) = nI a from (by show r1 39 (3 * t) = _; rw [fm.1 39 (by omega)]; exact r39.trans c10), m_faults_t, bd_s]
      refine ⟨-2, flX c1 3 a, _, by rw [tti q1, if_neg hv, if_neg hne], el.trans h1, Or.inl ⟨by decide, ?_⟩⟩
      exact TR_seq hT1 fx fm w17 w19 (w50.trans rfl) (w25.trans g25) (TR_fault (Tw_44 hW1).1 (fMY_su fMY.rf (by omega) (by omega) (Or.inl (Nat.le_refl p))) (by decide))
