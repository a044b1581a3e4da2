theorem AgM_5 {n : Nat} {r r' : jS} {v : Int32} (h : AgM n r r') : AgM n r (su r' 30 5 v) := by
  refine ⟨fun p h1 h2 h3 t ht => ?_, h.2.1, h.2.2⟩
  rw [su_ne (by omega)]
  exact h.1 p h1 h2 h3 t ht
/-- the reference's row of t, once it is made, against the class's -/
theorem row_ok {c r c' r' : jS} {T n k : Nat} {lx ty oa ob od : Option Nat} {v2 : Int32} {w : Nat} (hT : Ty c r T) (hM : Tm c r T n) (hs : shp T n k lx ty oa ob od) (hx : AgX n c c') (hm : AgM n r r')
    (h1 : 1 + oz (szN c) oa + oz (szN c) ob + oz (szN c) od ≤ 1000) (h2 : 1 + max (oz (dpN c) oa) (max (oz (dpN c) ob) (oz (dpN c) od)) ≤ 40)
    (e6 : c' 6 n = nI k) (e7 : c' 7 n = v2) (e70 : k ≠ 0 → v2 = 0) (e8 : c' 8 n = pv lx) (e9 : c' 9 n = pv ty) (e10 : c' 10 n = pv oa) (e11 : c' 11 n = pv ob) (e12 : c' 12 n = pv od)
    (e13 : c' 13 n = xmS c oa ob od) (e14 : c' 14 n = xmD c oa ob od) (e15 : c' 15 n = xmF c (nI k) lx oa ob od) (e16 : c' 16 n = nI w)
    (hw : w = (if k = 0 then dgN v2 else mkN k) + oz (lnN c) ty + oz (wdN c) oa + oz (wdN c) ob + oz (wdN c) od) (hw2 : (if k = 0 then dgN v2 else mkN k) ≤ 20) (e4 : ∀ i, i < T → c' 4 i = c 4 i)
    (m35 : r' 35 n = nI k) (m36 : r' 36 n = v2) (m37 : r' 37 n = pv lx) (m38 : r' 38 n = pv ty) (m39 : r' 39 (3 * n) = pv oa) (m39b : r' 39 (3 * n + 1) = pv ob) (m39c : r' 39 (3 * n + 2) = pv od)
    (m40 : r' 40 n = nI (1 + oz (szN c) oa + oz (szN c) ob + oz (szN c) od)) (m41 : r' 41 n = nI (1 + max (oz (dpN c) oa) (max (oz (dpN c) ob) (oz (dpN c) od))))
    (m42 : ∀ z, z < 26 → r' 42 (26 * n + z) = nI (frq k lx z (oz (fun p => frN r p z) oa) (oz (fun p => frN r p z) ob) (oz (fun p => frN r p z) od))) : Com c' r' n ∧ Nod c' r' T n k lx ty oa ob od := by
  obtain ⟨hk7, -, hx26, hy, ha, hb, hd⟩ := id hs
  have bS := xmS_nI hM ha hb hd
  have bD := xmD_nI hM ha hb hd
  have sz : szN c' n = 1 + oz (szN c) oa + oz (szN c) ob + oz (szN c) od := by unfold szN; rw [e13, bS]; exact nI_clamp (by omega)
  have dp : dpN c' n = 1 + max (oz (dpN c) oa) (max (oz (dpN c) ob) (oz (dpN c) od)) := by unfold dpN; rw [e14, bD]; exact nI_clamp (by omega)
  have wa := (ov_wd hM ha).2
  have wb := (ov_wd hM hb).2
  have wd := (ov_wd hM hd).2
  have wl := (ov_ln hT hy).2
  have hwb : w ≤ 60 * (1 + oz (szN c) oa + oz (szN c) ob + oz (szN c) od) := by omega
  have wn : wdN c' n = w := by unfold wdN; rw [e16]; exact nI_clamp (by omega)
  have fb : ∀ z, z < 26 → frq k lx z (oz (fun p => frN r p z) oa) (oz (fun p => frN r p z) ob) (oz (fun p => frN r p z) od) ≤ 1 + oz (szN c) oa + oz (szN c) ob + oz (szN c) od := by
    intro z hz
    have a1 := fr_le hM ha hz
    have a2 := fr_le hM hb hz
    have a3 := fr_le hM hd hz
    have a4 := frq_le k lx z (oz (fun p => frN r p z) oa) (oz (fun p => frN r p z) ob) (oz (fun p => frN r p z) od)
    omega
  have fn : ∀ z, z < 26 → frN r' n z = frq k lx z (oz (fun p => frN r p z) oa) (oz (fun p => frN r p z) ob) (oz (fun p => frN r p z) od) := by
    intro z hz
    have := fb z hz
    unfold frN
    rw [m42 z hz]
    exact nI_clamp (by omega)
  have s13 : ∀ p, p < n → szN c' p = szN c p := by intro p hp; unfold szN; rw [hx 13 (by omega) (by omega) p hp]
  have s14 : ∀ p, p < n → dpN c' p = dpN c p := by intro p hp; unfold dpN; rw [hx 14 (by omega) (by omega) p hp]
  have s16 : ∀ p, p < n → wdN c' p = wdN c p := by intro p hp; unfold wdN; rw [hx 16 (by omega) (by omega) p hp]
  have s4 : ∀ p, p < T → lnN c' p = lnN c p := by intro p hp; unfold lnN; rw [e4 p hp]
  have s42 : ∀ z, z < 26 → ∀ p, p < n → frN r' p z = frN r p z := by intro z hz p hp; unfold frN; rw [hm.2.2 _ (by omega)]
  constructor
  · refine ⟨⟨m35.trans e6.symm, m36.trans e7.symm, m37.trans e8.symm, m38.trans e9.symm, m39.trans e10.symm, m39b.trans e11.symm, m39c.trans e12.symm, ?_, ?_⟩, ⟨?_, ?_, ?_, ?_, ?_, ?_⟩, fun z hz => ⟨?_, ?_, ?_⟩, fun z hz => ?_⟩
    · rw [m40, e13, bS]
    · rw [m41, e14, bD]
    · rw [sz, e13, bS]
    · rw [sz]; exact h1
    · rw [dp, e14, bD]
    · rw [dp]; exact h2
    · rw [wn, e16]
    · rw [wn, sz]; exact hwb
    · rw [fn z hz, m42 z hz]
    · rw [fn z hz, sz]; exact fb z hz
    · rw [fn z hz, e15]
      exact frM_tb hk7 (by omega) hx26 (ov_tb hM ha hz) (ov_tb hM hb hz) (ov_tb hM hd hz)
    · rw [e15]
      exact frM_hi hk7 hz hx26 (ov_tb2 hM ha hz) (ov_tb2 hM hb hz) (ov_tb2 hM hd hz)
  · refine ⟨hs, ⟨e6, e8, e9, e10, e11, e12, fun h0 => e7.trans (e70 h0)⟩, ⟨?_, ?_⟩, fun z hz => ?_, ?_⟩
    · rw [sz, oz_congr ha s13, oz_congr hb s13, oz_congr hd s13]
    · rw [dp, oz_congr ha s14, oz_congr hb s14, oz_congr hd s14]
    · rw [fn z hz, oz_congr ha (s42 z hz), oz_congr hb (s42 z hz), oz_congr hd (s42 z hz)]
    · rw [wn, e7, hw, oz_congr hy s4, oz_congr ha s16, oz_congr hb s16, oz_congr hd s16]
/-- what make of the reference comes to -/
theorem m_mk {c r : jS} {T n k : Nat} {lx ty oa ob od : Option Nat} (v2 : Int32) (hM : Tm c r T n) (hs : shp T n k lx ty oa ob od) (hn : n < 400) :
    ∃ g : Nat → Int32, (∀ j, j < 26 * n → g j = r 42 j) ∧ (∀ z, z < 26 → g (26 * n + z) = nI (frq k lx z (oz (fun p => frN r p z) oa) (oz (fun p => frN r p z) ob) (oz (fun p => frN r p z) od))) ∧
      m_make r (nI k) v2 (pv lx) (pv ty) (pv oa) (pv ob) (pv od) = some (if 1000 < 1 + oz (szN c) oa + oz (szN c) ob + oz (szN c) od then (-3, su (su (rw42 (mk0 r n (nI k) v2 (pv lx) (pv ty) (pv oa) (pv ob) (pv od)) g) 40 n (nI (1 + oz (szN c) oa + oz (szN c) ob + oz (szN c) od))) 41 n (nI (1 + max (oz (dpN c) oa) (max (oz (dpN c) ob) (oz (dpN c) od)))))
        else if 1 + max (oz (dpN c) oa) (max (oz (dpN c) ob) (oz (dpN c) od)) ≤ 40 then (nI n, su (su (su (rw42 (mk0 r n (nI k) v2 (pv lx) (pv ty) (pv oa) (pv ob) (pv od)) g) 40 n (nI (1 + oz (szN c) oa + oz (szN c) ob + oz (szN c) od))) 41 n (nI (1 + max (oz (dpN c) oa) (max (oz (dpN c) ob) (oz (dpN c) od))))) 30 5 (nI (n + 1)))
        else (-3, su (su (rw42 (mk0 r n (nI k) v2 (pv lx) (pv ty) (pv oa) (pv ob) (pv od)) g) 40 n (nI (1 + oz (szN c) oa + oz (szN c) ob + oz (szN c) od))) 41 n (nI (1 + max (oz (dpN c) oa) (max (oz (dpN c) ob) (oz (dpN c) od)))))) := by
  obtain ⟨hk7, -, hx26, hy, ha, hb, hd⟩ := id hs
  obtain ⟨p1, p2, p3, p4, p5, p6⟩ := parts_ok (c := c) (r := r) (v2 := v2) hs (frN r) (szN c) (dpN c)
  have e := mk_make (c := r) (v1 := nI k) (v2 := v2) (v3 := pv lx) (v4 := pv ty) (a := pv oa) (b := pv ob) (d := pv od) (ps := psl oa ob od) hn hM.2.1 (pO hk7) (by by_cases h : k < 2 <;> by_cases h2 : k = 2 <;> by_cases h6 : k = 6 <;> simp [h, h2, h6]) p1 p2
  refine ⟨mkF (inF (r 42) n (nI k) (pv lx) 26) n (nI k) (pv lx) 0 (psl oa ob od), ?_, ?_, ?_⟩
  · intro j hj
    rw [mkF_lt hj, inF_lt hj]
  · intro z hz
    rw [mkF_at (F := fun p => frN r p z) hz (psl oa ob od) 0 _ (if nI k = 1 ∧ nI z = pv lx then 1 else 0) (fun p hp => ⟨p3 p hp, ?_⟩) ?_, p6 z hz]
    · rw [inF_at hz]
      by_cases hq : nI k = 1 ∧ nI z = pv lx
      · rw [if_pos hq, if_pos hq]; rfl
      · rw [if_neg hq, if_neg hq]; rfl
    · have hl : 26 * p + z < 26 * n := by have := p3 p hp; omega
      rw [inF_lt hl]
      exact ((hM.2.2.2 p (p3 p hp)).1.2.2.1 z hz).1
  · rw [e]
    have s1 : mkS r 1 (psl oa ob od) = nI (1 + oz (szN c) oa + oz (szN c) ob + oz (szN c) od) := by
      rw [show (1 : Int32) = nI 1 from rfl, mkS_nI hM _ _ p3, p4, show 1 + (oz (szN c) oa + oz (szN c) ob + oz (szN c) od) = 1 + oz (szN c) oa + oz (szN c) ob + oz (szN c) od by omega]
    have s2 : mkD r 0 (psl oa ob od) = nI (max (oz (dpN c) oa) (max (oz (dpN c) ob) (oz (dpN c) od))) := by
      rw [show (0 : Int32) = nI 0 from rfl, mkD_nI hM _ _ (by omega) p3, p5]
    have d1 := (ov_dp hM ha).2
    have d2 := (ov_dp hM hb).2
    have d3 := (ov_dp hM hd).2
    have z1 := (ov_sz hM ha).2
    have z2 := (ov_sz hM hb).2
    have z3 := (ov_sz hM hd).2
    unfold mkE
    rw [s1, s2, show nI (max (oz (dpN c) oa) (max (oz (dpN c) ob) (oz (dpN c) od))) + 1 = nI (1 + max (oz (dpN c) oa) (max (oz (dpN c) ob) (oz (dpN c) od))) by rw [nI_1, Nat.add_comm]]
    have c1 : ((1000 : Int32) < nI (1 + oz (szN c) oa + oz (szN c) ob + oz (szN c) od)) ↔ 1000 < 1 + oz (szN c) oa + oz (szN c) ob + oz (szN c) od := nI_ltI (a := 1000) (by decide) (by omega)
    have c2 : (nI (1 + max (oz (dpN c) oa) (max (oz (dpN c) ob) (oz (dpN c) od))) ≤ (40 : Int32)) ↔ 1 + max (oz (dpN c) oa) (max (oz (dpN c) ob) (oz (dpN c) od)) ≤ 40 := nI_leI (b := 40) (by omega) (by decide)
    simp only [c1, c2]
theorem MK {c r : jS} {T n k : Nat} {lx ty oa ob od : Option Nat} (hT : Ty c r T) (hM : Tm c r T n) (hk : k ≠ 0) (hs : shp T n k lx ty oa ob od) :
    ∃ (v : Int32) (c' r' : jS), xTerms_made c (nI k) (pv lx) (pv ty) (pv oa) (pv ob) (pv od) = some (v, c') ∧ m_make r (nI k) 0 (pv lx) (pv ty) (pv oa) (pv ob) (pv od) = some (v, r') ∧ fX c c' ∧ fM r r' ∧ AgX n c c' ∧ AgM n r r' ∧
      ((v = -3 ∧ c' = c ∧ Tm c' r' T n) ∨ (v = nI n ∧ n < 400 ∧ Tm c' r' T (n + 1) ∧ Nod c' r' T n k lx ty oa ob od)) := by
  obtain ⟨hk7, -, hx26, hy, ha, hb, hd⟩ := id hs
  have e1 := x_made hM.1 hM.2.2.1 hT.1 hT.2.2.2.1 (nI k) hx26 hy ha hb hd
  by_cases h400 : n = 400
  · subst h400
    refine ⟨-3, c, r, by rw [e1, if_pos rfl], ?_, fX.rf, fM.rf, AgX.rf, AgM.rf, Or.inl ⟨rfl, rfl, hM⟩⟩
    unfold m_make
    rw [hM.2.1, if_pos (show nI 400 = (400 : Int32) from rfl)]
  · have hn : n < 400 := by have := hM.2.2.1; omega
    obtain ⟨g, g1, g2, e2⟩ := m_mk 0 hM hs hn
    have d1 := (ov_dp hM ha).2
    have d2 := (ov_dp hM hb).2
    have d3 := (ov_dp hM hd).2
    have z1 := (ov_sz hM ha).2
    have z2 := (ov_sz hM hb).2
    have z3 := (ov_sz hM hd).2
    rw [if_neg h400, xmS_nI hM ha hb hd, xmD_nI hM ha hb hd] at e1
    have c1 : ((1000 : Int32) < nI (1 + oz (szN c) oa + oz (szN c) ob + oz (szN c) od)) ↔ 1000 < 1 + oz (szN c) oa + oz (szN c) ob + oz (szN c) od := nI_ltI (a := 1000) (by decide) (by omega)
    have c2 : (nI (1 + max (oz (dpN c) oa) (max (oz (dpN c) ob) (oz (dpN c) od))) ≤ (40 : Int32)) ↔ 1 + max (oz (dpN c) oa) (max (oz (dpN c) ob) (oz (dpN c) od)) ≤ 40 := nI_leI (b := 40) (by omega) (by decide)
    simp only [c1, c2] at e1
    have hF : ∀ (r' : jS), AgM n r r' → r' 30 5 = nI n → Tm c r' T n := fun r' h h5 => Tm_of (Nat.le_refl n) AgX.rf h (fun _ _ => rfl) hM.1 h5 hM
    by_cases h1 : 1000 < 1 + oz (szN c) oa + oz (szN c) ob + oz (szN c) od
    · rw [if_pos h1] at e1 e2
      exact ⟨-3, c, _, e1, e2, fX.rf, fM_E, AgX.rf, AgM_E g1, Or.inl ⟨rfl, rfl, hF _ (AgM_E g1) hM.2.1⟩⟩
    · rw [if_neg h1] at e1 e2
      by_cases h2 : 1 + max (oz (dpN c) oa) (max (oz (dpN c) ob) (oz (dpN c) od)) ≤ 40
      · rw [if_pos h2] at e1 e2
        have hm : AgM n r (su (su (su (rw42 (mk0 r n (nI k) 0 (pv lx) (pv ty) (pv oa) (pv ob) (pv od)) g) 40 n (nI (1 + oz (szN c) oa + oz (szN c) ob + oz (szN c) od))) 41 n (nI (1 + max (oz (dpN c) oa) (max (oz (dpN c) ob) (oz (dpN c) od))))) 30 5 (nI (n + 1))) := AgM_5 (AgM_E g1)
        have hmk : (if k = 0 then dgN 0 else mkN k) = mkN k := if_neg hk
        have hmk2 : mkN k ≤ 20 := by
          rcases (show k = 1 ∨ k = 2 ∨ k = 3 ∨ k = 4 ∨ k = 5 ∨ k = 6 by omega) with rfl | rfl | rfl | rfl | rfl | rfl <;> decide
        have q39 : ∀ (f : Nat → Int32) (a b d : Int32), upd (upd (upd f (3 * n) a) (3 * n + 1) b) (3 * n + 2) d (3 * n) = a ∧ upd (upd (upd f (3 * n) a) (3 * n + 1) b) (3 * n + 2) d (3 * n + 1) = b ∧ upd (upd (upd f (3 * n) a) (3 * n + 1) b) (3 * n + 2) d (3 * n + 2) = d := by
          intro f a b d
          refine ⟨?_, ?_, upd_s⟩
          · rw [upd_n (by omega), upd_n (by omega), upd_s]
          · rw [upd_n (by omega), upd_s]
        have hrow := row_ok (c' := xmE c n (nI k) lx ty oa ob od) (v2 := 0) hT hM hs AgX_E hm (by omega) h2 upd_s upd_s (fun _ => rfl) upd_s upd_s upd_s upd_s upd_s upd_s upd_s upd_s
          (show upd (c 16) n (xmW c (nI k) ty oa ob od) n = nI (mkN k + oz (lnN c) ty + oz (wdN c) oa + oz (wdN c) ob + oz (wdN c) od) from upd_s.trans (xmW_nI hk7 hT hM hy ha hb hd)) (by rw [hmk]) (by rw [hmk]; exact hmk2) (fun _ _ => rfl) upd_s upd_s upd_s upd_s (q39 _ _ _ _).1 (q39 _ _ _ _).2.1 (q39 _ _ _ _).2.2 upd_s upd_s g2
        exact ⟨nI n, _, _, e1, e2, fX_E, fM_5 fM_E, AgX_E, hm, Or.inr ⟨rfl, hn, Tm_push hn AgX_E hm (fun _ _ => rfl) rfl rfl hM hrow.1 hrow.2, hrow.2⟩⟩
      · rw [if_neg h2] at e1 e2
        exact ⟨-3, c, _, e1, e2, fX.rf, fM_E, AgX.rf, AgM_E g1, Or.inl ⟨rfl, rfl, hF _ (AgM_E g1) hM.2.1⟩⟩
