theorem wt_L {c0 : jS} {v1 : Int32} : ∀ (k x : Nat) (c : jS), x + k = 26 → (∀ p, p ≠ 19 → c p = c0 p) → (∀ i, i < x → c 19 i = c0 18 i) →
    ∃ c1 : jS, (∀ p, p ≠ 19 → c1 p = c0 p) ∧ (∀ i, i < 26 → c1 19 i = c0 18 i) ∧ xTypist_wholeTypeOf_L13 v1 (nI x) c = xTypist_wholeTypeOf_L13 v1 (nI 26) c1
  | 0, x, c, hx, hc, h => by
    have hx6 : x = 26 := by omega
    subst hx6
    exact ⟨c, hc, h, rfl⟩
  | k + 1, x, c, hx, hc, h => by
    obtain ⟨c1, g1, g2, g3⟩ := wt_L (c0 := c0) (v1 := v1) k (x + 1) (su c 19 x (c 18 x)) (by omega) (fun p hp => by rw [su_ne hp]; exact hc p hp) (fun i hi => by
      rw [su_row]
      by_cases hix : i = x
      · subst hix; rw [upd_s, hc 18 (by omega)]
      · rw [upd_n hix]; exact h i (by omega))
    refine ⟨c1, g1, g2, Eq.trans ?_ g3⟩
    unfold xTypist_wholeTypeOf_L13
    refine lp_inl ?_
    show xTypist_wholeTypeOf_S13 v1 (nI x) c = _
    unfold xTypist_wholeTypeOf_S13
    rw [if_neg (show ¬ (26 : Int32) ≤ nI x from nI_ge (b := 26) (by omega) (by decide)), gd_t (ix_nI (by omega) (by decide)), gd_t (ix_nI (by omega) (by decide)), ltS, nI_clamp (by omega), nI_1]
theorem wm_L {r0 : jS} {v1 v2 : Int32} : ∀ (k x : Nat) (r : jS), x + k = 26 → (∀ p, p ≠ 50 → r p = r0 p) → (∀ i, i < x → r 50 i = r0 34 i) →
    ∃ r1 : jS, (∀ p, p ≠ 50 → r1 p = r0 p) ∧ (∀ i, i < 26 → r1 50 i = r0 34 i) ∧ m_type_L28 v1 v2 (nI x) r = m_type_L28 v1 v2 (nI 26) r1
  | 0, x, r, hx, hc, h => by
    have hx6 : x = 26 := by omega
    subst hx6
    exact ⟨r, hc, h, rfl⟩
  | k + 1, x, r, hx, hc, h => by
    obtain ⟨r1, g1, g2, g3⟩ := wm_L (r0 := r0) (v1 := v1) (v2 := v2) k (x + 1) (su r 50 x (r 34 x)) (by omega) (fun p hp => by rw [su_ne hp]; exact hc p hp) (fun i hi => by
      rw [su_row]
      by_cases hix : i = x
      · subst hix; rw [upd_s, hc 34 (by omega)]
      · rw [upd_n hix]; exact h i (by omega))
    refine ⟨r1, g1, g2, Eq.trans ?_ g3⟩
    unfold m_type_L28
    refine lp_inl ?_
    show m_type_S28 v1 v2 (nI x) r = _
    unfold m_type_S28
    rw [if_neg (show ¬ (26 : Int32) ≤ nI x from nI_ge (b := 26) (by omega) (by decide)), gd_t (ix_nI (by omega) (by decide)), gd_t (ix_nI (by omega) (by decide)), ltS, nI_clamp (by omega), nI_1]
theorem L67_end {r : jS} {v2 : Int32} (h : r 30 14 ≤ 0 ∨ 0 < r 30 24 ∨ r 30 22 = -3) : m_type_L67 v2 r = (if 0 < r 30 24 ∨ r 30 22 = -3 then (if 0 < r 30 24 then some (-2, su r 30 0 v2) else some (r 30 22, su r 30 0 v2)) else some (r 30 22, su r 30 0 (r 30 0))) := by
  have pos : ∀ {v : Int32}, 0 < v → ¬ v ≤ 0 ∧ ¬ v = 0 := by
    intro v hv
    rw [Int32.lt_iff_toInt_lt] at hv
    refine ⟨?_, ?_⟩
    · rw [Int32.le_iff_toInt_le]; omega
    · intro e; rw [e] at hv; omega
  have neg : ∀ {v : Int32}, ¬ 0 < v → v ≤ 0 := by
    intro v hv
    rw [Int32.lt_iff_toInt_lt] at hv
    rw [Int32.le_iff_toInt_le]; omega
  have e85 : ∀ s1 : Int32, m_type_P285_67 s1 r = some (Sum.inr ((if 0 < r 30 24 then -2 else r 30 22), su r 30 0 s1)) := by
    intro s1
    unfold m_type_P285_67
    rw [ltS, show (su r 30 0 s1) 30 24 = r 30 24 from rfl, show (su r 30 0 s1) 30 22 = r 30 22 from rfl]
    by_cases h1 : 0 < r 30 24
    · rw [if_neg (pos h1).1, if_pos h1]
    · rw [if_pos (neg h1), if_neg h1]
  have e60 : m_type_P260_67 v2 r = some (Sum.inr (if 0 < r 30 24 ∨ r 30 22 = -3 then (if 0 < r 30 24 then (-2, su r 30 0 v2) else (r 30 22, su r 30 0 v2)) else (r 30 22, su r 30 0 (r 30 0)))) := by
    unfold m_type_P260_67 m_type_P277_67
    rw [e85, e85]
    by_cases h1 : 0 < r 30 24
    · rw [if_pos h1, if_pos h1, if_pos (Or.inl h1), if_pos h1]
    · rw [if_neg h1, if_neg h1]
      by_cases h2 : r 30 22 = -3
      · rw [if_pos h2, if_pos (Or.inr h2), if_neg h1]
      · rw [if_neg h2, if_neg (fun q => q.elim h1 h2)]
  have es : m_type_S67 v2 r = m_type_P260_67 v2 r := by
    unfold m_type_S67
    by_cases h0 : r 30 14 ≤ 0
    · rw [if_pos h0]
    · rw [if_neg h0]
      by_cases h1 : r 30 24 = 0
      · rw [if_pos h1]
        by_cases h2 : r 30 22 = -3
        · rw [if_pos h2]
        · rcases h with h | h | h
          · exact absurd h h0
          · exact absurd h1 (pos h).2
          · exact absurd h h2
      · rw [if_neg h1]
  unfold m_type_L67
  by_cases h1 : 0 < r 30 24
  · rw [if_pos (Or.inl h1), if_pos h1]
    refine lp_inr ?_
    show m_type_S67 v2 r = _
    rw [es, e60, if_pos (Or.inl h1), if_pos h1]
  · by_cases h2 : r 30 22 = -3
    · rw [if_pos (Or.inr h2), if_neg h1]
      refine lp_inr ?_
      show m_type_S67 v2 r = _
      rw [es, e60, if_pos (Or.inr h2), if_neg h1]
    · rw [if_neg (fun q => q.elim h1 h2)]
      refine lp_inr ?_
      show m_type_S67 v2 r = _
      rw [es, e60, if_neg (fun q => q.elim h1 h2)]
theorem Ty_cut {c c' r r' : jS} {T : Nat} (hx : ∀ i, i < T → c' 2 i = c 2 i ∧ c' 3 i = c 3 i ∧ c' 4 i = c 4 i) (hm : ∀ i, i < T → r' 31 i = r 31 i ∧ r' 32 i = r 32 i ∧ r' 33 i = r 33 i) (h1 : c' 1 3 = nI T) (h0 : r' 30 0 = nI T) (h : Ty c r T) : Ty c' r' T := by
  obtain ⟨-, -, a3, a4, a5, a6, a7⟩ := h
  have hl : ∀ i, i < T → lnN c' i = lnN c i := fun i hi => by unfold lnN; rw [(hx i hi).2.2]
  refine ⟨h1, h0, a3, a4, ?_, ?_, ?_⟩
  · intro i hi
    rw [(hm i hi).1, (hm i hi).2.1, (hm i hi).2.2, (hx i hi).1, (hx i hi).2.1, (hx i hi).2.2, hl i hi]
    exact a5 i hi
  · rw [(hx 0 (by omega)).1, (hx 0 (by omega)).2.1, (hx 0 (by omega)).2.2]
    exact a6
  · intro i h1 hi
    obtain ⟨a, b, q1, q2, q3, q4, q5⟩ := a7 i h1 hi
    refine ⟨a, b, q1, q2, ?_, ?_, ?_⟩
    · rw [(hx i hi).1]; exact q3
    · rw [(hx i hi).2.1]; exact q4
    · rw [hl i hi, hl a (by omega), hl b (by omega)]; exact q5
theorem tcut_ok {c : jS} {T T' : Nat} (h : c 1 3 = nI T') (h1 : 1 ≤ T) (hT : T ≤ T') (h4 : T' ≤ 40) : ∃ c', xTypes_cutTo c (nI T) = some ((), c') ∧ (∀ p, p ≠ 1 → c' p = c p) ∧ c' 1 3 = nI T := by
  unfold xTypes_cutTo
  rw [if_neg (show ¬ nI T < (1 : Int32) from nI_nlt (b := 1) h1 (by omega)), h, ltS]
  by_cases he : T' = T
  · subst he
    exact ⟨c, by rw [if_pos (nI_le (Nat.le_refl _) (by omega))], fun _ _ => rfl, h⟩
  · exact ⟨su c 1 3 (nI T), by rw [if_neg (nI_ge (by omega) (by omega))], fun p hp => su_ne hp, by rw [su_row, upd_s]⟩
theorem op_type : Op_type Inv := by
  intro c r a hI
  obtain ⟨T, n, hT, hM, hO⟩ := id hI
  have h4 := hM.2.2.1
  have h40 := hT.2.2.2.1
  unfold xc_type m_type
  rcases term_cases hM.1 hM.2.1 hM.2.2.1 a with ⟨t, ht, rfl, e1, e2⟩ | ⟨e1, e2⟩
  · rw [e1, ob_s, if_neg n10, e2, ob_s, if_neg n10, ltS, ltS]
    unfold xTypist_wholeTypeOf
    rw [ltS, ltS, hT.2.1]
    obtain ⟨c1, g1, g2, g3⟩ := wt_L (c0 := su (su c 17 4 0) 17 5 (-2)) (v1 := nI t) 26 0 _ (by omega) (fun _ _ => rfl) (fun i hi => by omega)
    obtain ⟨r1, k1, k2, k3⟩ := wm_L (r0 := su (su r 30 24 0) 30 25 (-2)) (v1 := nI t) (v2 := nI T) 26 0 _ (by omega) (fun _ _ => rfl) (fun i hi => by omega)
    have fx1 : fXY T c c1 := ⟨fun p hp => by rw [g1 p (by omega), su_ne (by omega), su_ne (by omega)], fun i _ => by rw [g1 2 (by omega), g1 3 (by omega), g1 4 (by omega)]; exact ⟨rfl, rfl, rfl⟩⟩
    have fm1 : fMY T 0 r r1 := ⟨fun p hp => by rw [k1 p (by omega), su_ne (by omega), su_ne (by omega)], fun k q1 q2 q3 q4 q5 => by rw [k1 30 (by omega), su_row, upd_n (by omega), su_row, upd_n (by omega)], fun i _ => by rw [k1 31 (by omega), k1 32 (by omega), k1 33 (by omega)]; exact ⟨rfl, rfl, rfl⟩, fun q q1 q2 i hi => by omega⟩
    have hT1 : Ty c1 r1 T := Ty_r (fun p q1 q2 => by rw [g1 p (by omega), su_ne (by omega), su_ne (by omega)]) (by rw [k1 30 (by omega)]; rfl) (fun p q1 q2 => by rw [k1 p (by omega), su_ne (by omega), su_ne (by omega)]) hT
    have hW1 : Tw c1 r1 T n := by
      refine ⟨hT1, Tm_Y fx1 fm1 hM, fun x hx => ?_, by rw [k1 30 (by omega)]; rfl⟩
      rw [g2 x hx, k2 x hx]
      exact hO.1 x hx
    have f14 : (su (su r1 30 14 0) 30 22 0) 30 14 = nI 0 := by rw [su_row, upd_n (by omega), su_row, upd_s]; rfl
    have fmR : fMY T 0 r1 (su (su r1 30 14 0) 30 22 0) := fMY_30 (fMY_30 fMY.rf (by omega)) (by omega)
    have hWR : Tw c1 (su (su r1 30 14 0) 30 22 0) T n := Tw_r (p := 0) hW1 fmR rfl (fun q q1 q2 => by rw [su_ne (by omega), su_ne (by omega)]) rfl rfl
    have hd : dpN c1 t ≤ 40 := by unfold dpN; rw [fx1.1 14 (by omega)]; exact (hM.2.2.2 t ht).1.2.1.2.2.2.1
    obtain ⟨v, c', r', s1, s2, T', a1, a2, a3, a4, a5⟩ := ty_sim 40 130 t c1 _ T n 0 (nI T) hWR ht hd (by omega) (by omega) f14 (by rw [su_row, upd_s]; decide)
    have em : m_type_L28 (nI t) (nI T) 0 (su (su r 30 24 0) 30 25 (-2)) = m_type_L67 (nI T) r' := by
      refine Eq.trans k3 ?_
      rw [← s2]
      unfold m_type_L28
      refine lp_om ?_
      show m_type_S28 (nI t) (nI T) (nI 26) r1 = _
      unfold m_type_S28
      rw [if_pos (by decide), ltS, ltS, m_push_t f14 (by omega), bd_s]
    have ex : ∀ {v' : Int32} {c2 : jS}, (if 0 ≤ v then some (v, c') else bd (xTypes_cutTo c' (nI T)) (fun _ c6 => some (v, c6))) = some (v', c2) → xTypist_wholeTypeOf_L13 (nI t) 0 (su (su c 17 4 0) 17 5 (-2)) = some (v', c2) := by
      intro v' c2 h
      refine Eq.trans g3 ?_
      unfold xTypist_wholeTypeOf_L13
      refine lp_inr ?_
      show xTypist_wholeTypeOf_S13 (nI t) (nI 26) c1 = _
      unfold xTypist_wholeTypeOf_S13
      rw [if_pos (by decide), show xTypes_total c1 = some (nI T) from congrArg some hT1.1, ob_s, s1, bd_s]
      by_cases h0 : 0 ≤ v
      · rw [if_pos h0] at h ⊢
        cases h
        rfl
      · rw [if_neg h0] at h ⊢
        obtain ⟨c3, w1, -, -⟩ := tcut_ok a2.1 hT.2.2.1 a1 a2.2.2.2.1
        rw [w1, bd_s] at h ⊢
        cases h
        rfl
    have FX := fx1.tr (Nat.le_refl T) a3
    have FM := (fm1.tr (Nat.le_refl T) (Nat.le_refl 0) fmR).tr (Nat.le_refl T) (Nat.le_refl 0) a4
    have oth : ∀ {c2 r2 : jS}, (∀ p, p ≠ 1 → c2 p = c' p) → (∀ q, q ≠ 30 → r2 q = r' q) → (∀ k, k ≠ 0 → r2 30 k = r' 30 k) → r' 30 24 = c' 17 4 → r' 30 25 = c' 17 5 → Oth c2 r2 T := by
      intro c2 r2 hc hr hr30 q1 q2
      obtain ⟨o1, ⟨-, -, o2⟩, o3, o4⟩ := hO
      unfold Oth
      rw [hc 18 (by omega), hc 17 (by omega), hc 0 (by omega), hc 26 (by omega), hc 27 (by omega), hc 28 (by omega), hc 29 (by omega), hr 34 (by omega), hr 55 (by omega), hr 59 (by omega), hr30 24 (by omega), hr30 25 (by omega), hr30 31 (by omega), hr30 33 (by omega), hr30 40 (by omega), FX.1 18 (by omega), FX.1 0 (by omega), FX.1 26 (by omega), FX.1 27 (by omega), FX.1 28 (by omega), FX.1 29 (by omega), FM.1 34 (by omega), FM.1 55 (by omega), FM.1 59 (by omega), FM.2.1 31 (by omega) (by omega) (by omega) (by omega) (by omega), FM.2.1 33 (by omega) (by omega) (by omega) (by omega) (by omega), FM.2.1 40 (by omega) (by omega) (by omega) (by omega) (by omega)]
      exact ⟨o1, ⟨q1, q2, o2⟩, o3, o4⟩
    have bad : ∀ (w : Int32), ¬ 0 ≤ w → v = w → (0 < r' 30 24 ∨ r' 30 22 = -3) → (if 0 < r' 30 24 then some (-2, su r' 30 0 (nI T)) else some (r' 30 22, su r' 30 0 (nI T))) = some (w, su r' 30 0 (nI T)) → r' 30 24 = c' 17 4 → r' 30 25 = c' 17 5 → ∃ v c2 r2, bd (xTypist_wholeTypeOf_L13 (nI t) 0 (su (su c 17 4 0) 17 5 (-2))) (fun r2 c3 => some (r2, c3)) = some (v, c2) ∧ m_type_L28 (nI t) (nI T) 0 (su (su r 30 24 0) 30 25 (-2)) = some (v, r2) ∧ Inv c2 r2 := by
      intro w hw hvw hst hval q1 q2
      obtain ⟨c3, w1, w2, w3⟩ := tcut_ok a2.1 hT.2.2.1 a1 a2.2.2.2.1
      refine ⟨w, c3, su r' 30 0 (nI T), ?_, ?_, T, n, ?_, ?_, ?_⟩
      · rw [ex (v' := w) (c2 := c3) (by rw [hvw, if_neg hw, w1, bd_s]), bd_s]
      · rw [em, L67_end (Or.inr hst), if_pos hst, hval]
      · exact Ty_cut (fun i hi => by rw [w2 2 (by omega), w2 3 (by omega), w2 4 (by omega)]; exact FX.2 i hi) (fun i hi => FM.2.2.1 i hi) w3 (by rw [su_row, upd_s]) hT
      · exact Tm_of (Nat.le_refl n) (fun q h1 h2 t _ => by rw [w2 q (by omega), FX.1 q (by omega)]) ⟨fun q h1 h2 _ t _ => by rw [su_ne (by omega), FM.1 q (by omega)], fun j _ => by rw [su_ne (by omega), FM.1 39 (by omega)], fun j _ => by rw [su_ne (by omega), FM.1 42 (by omega)]⟩ (fun i hi => by rw [w2 4 (by omega)]; exact (FX.2 i hi).2.2) (by rw [w2 5 (by omega), FX.1 5 (by omega)]; exact hM.1) (by rw [su_row, upd_n (by omega), FM.2.1 5 (by omega) (by omega) (by omega) (by omega) (by omega)]; exact hM.2.1) hM
      · exact oth w2 (fun q hq => su_ne hq) (fun k hk => by rw [su_row, upd_n hk]) q1 q2
    have q17 : c' 17 = c1 17 → r' 30 24 = 0 → r' 30 25 = (su (su r1 30 14 0) 30 22 0) 30 25 → r' 30 24 = c' 17 4 ∧ r' 30 25 = c' 17 5 := by
      intro h1 h2 h3
      rw [h1, g1 17 (by omega), h2, h3]
      refine ⟨rfl, ?_⟩
      show r1 30 25 = _
      rw [k1 30 (by omega)]
      rfl
    rcases a5 with ⟨b1, b2, b3, b4, b5⟩ | ⟨b1, b2, b3, b4⟩ | ⟨y, b1, b2, b3, b4, b5, b6, b7, b8, b9⟩
    · obtain ⟨w1, w2⟩ := q17 b5 b3 b4
      refine bad (-3) (by decide) b1 (Or.inr b2) ?_ w1 w2
      rw [b3, if_neg (by decide), b2]
    · exact bad (-2) (by decide) b1 (Or.inl b2) (by rw [if_pos b2]) b3 b4
    · obtain ⟨w1, w2⟩ := q17 b7 b5 b6
      have h4T := a2.2.2.2.1
      refine ⟨nI y, c', su r' 30 0 (r' 30 0), ?_, ?_, T', n, ?_, ?_, ?_⟩
      · rw [ex (v' := nI y) (c2 := c') (by rw [b2, if_pos (nI_pos' (by omega))]), bd_s]
      · rw [em, L67_end (Or.inl (by rw [b4]; decide)), if_neg (fun q => q.elim (fun q => by rw [b5] at q; exact absurd q (by decide)) (fun q => by rw [b3] at q; exact nne3 (by omega) q)), b3]
      · rw [su_self rfl]; exact a2
      · rw [su_self rfl]
        exact Tm_mono a1 (Tm_Y FX FM hM)
      · rw [su_self rfl]
        exact Oth_mono a1 (oth (fun _ _ => rfl) (fun _ _ => rfl) (fun _ _ => rfl) w1 w2)
  · exact ⟨-1, c, r, by rw [e1, ob_s, if_pos rfl], by rw [e2, ob_s, if_pos rfl], hI⟩
