def nul : Nat → Int32 := fun _ => -2
theorem alx_L {c0 r0 : jS} {T n t u : Nat} (hM : Tm c0 r0 T n) (ht : t < n) (hu : u < n) : ∀ (k x : Nat) (c : jS), x + k = 26 → (∀ p, p ≠ 21 → p ≠ 22 → c p = c0 p) → (∀ i, i < x → c 21 i = -2 ∧ c 22 i = -2) →
    ∃ c', xComparer_areAlike_L2 (nI t) (nI u) (nI x) c = some (b2 (lk c0 40 nul nul 0 t u), c') ∧ ∀ p, p ≠ 21 → p ≠ 22 → c' p = c0 p
  | 0, x, c, hx, hc, h => by
    have hx6 : x = 26 := by omega
    subst hx6
    refine ⟨c, ?_, hc⟩
    unfold xComparer_areAlike_L2
    refine lp_inr ?_
    show xComparer_areAlike_S2 (nI t) (nI u) (nI 26) c = _
    unfold xComparer_areAlike_S2
    have hd := (hM.2.2.2 t ht).1.2.1.2.2.2.1
    rw [if_pos (by decide), show xComparer_same 130 c (nI t) (nI u) 0 = _ from same_ok hM 40 130 t u 0 c hc ht hu hd (by omega), bd_s, gd_t (bz_b2 _), lk_congr hM 40 (c 21) (c 22) nul nul 0 t u ht hu (fun i hi => h i hi)]
  | k + 1, x, c, hx, hc, h => by
    obtain ⟨c', e, hc'⟩ := alx_L hM ht hu k (x + 1) (su (su c 21 x (-2)) 22 x (-2)) (by omega) (fun p h1 h2 => by rw [su_ne h2, su_ne h1]; exact hc p h1 h2) (fun i hi => by
      rw [su_row, su_ne (by omega), su_row, su_ne (by omega)]
      by_cases hix : i = x
      · subst hix; rw [upd_s, upd_s]; exact ⟨rfl, rfl⟩
      · rw [upd_n hix, upd_n hix]; exact h i (by omega))
    refine ⟨c', Eq.trans ?_ e, hc'⟩
    unfold xComparer_areAlike_L2
    refine lp_inl ?_
    show xComparer_areAlike_S2 (nI t) (nI u) (nI x) c = _
    unfold xComparer_areAlike_S2
    rw [if_neg (show ¬ (26 : Int32) ≤ nI x from nI_ge (b := 26) (by omega) (by decide)), gd_t (ix_nI (by omega) (by decide)), ltS, gd_t (ix_nI (by omega) (by decide)), ltS, nI_clamp (by omega), nI_1]
theorem ALX {c r : jS} {T n t u : Nat} (hM : Tm c r T n) (ht : t < n) (hu : u < n) : ∃ c', xComparer_areAlike c (nI t) (nI u) = some (b2 (lk c 40 nul nul 0 t u), c') ∧ ∀ p, p ≠ 21 → p ≠ 22 → c' p = c p :=
  alx_L hM ht hu 26 0 c (by omega) (fun _ _ _ => rfl) (fun i hi => by omega)
theorem alm_L {c r0 : jS} {T n t u : Nat} (hM0 : Tm c r0 T n) (ht : t < n) (hu : u < n) : ∀ (k x : Nat) (r : jS), x + k = 26 → fA 0 r0 r → (∀ i, i < x → r 51 i = -2 ∧ r 52 i = -2) →
    ∃ r', m_areAlike_L34 (nI t) (nI u) (nI x) r = some (b2 (lk c 40 nul nul 0 t u), r') ∧ fA 0 r0 r'
  | 0, x, r, hx, f, h => by
    have hx6 : x = 26 := by omega
    subst hx6
    have hd := (hM0.2.2.2 t ht).1.2.1.2.2.2.1
    have h14 : (su (su r 30 28 0) 30 14 0) 30 14 = nI 0 := by rw [su_row, upd_s]; rfl
    have f1 : fA 0 r (pshA (su (su r 30 28 0) 30 14 0) 0 (nI t) (nI u)) := fA_pshA (fA_30 (fA_30 fA.rf (by omega)) (by omega)) (Nat.le_refl 0)
    have F := f.tr (Nat.le_refl 0) f1
    have el : m_areAlike_L34 (nI t) (nI u) (nI 26) r = m_areAlike_L86 1 (pshA (su (su r 30 28 0) 30 14 0) 0 (nI t) (nI u)) := by
      unfold m_areAlike_L34
      refine lp_om ?_
      show m_areAlike_S34 (nI t) (nI u) (nI 26) r = _
      unfold m_areAlike_S34
      rw [if_pos (by decide), ltS, ltS, m_push_t h14 (by omega), bd_s, gd_t (by decide), ltS]
      rfl
    have hS := la_sim (c := c) (T := T) (n := n) 40 t u 0 0 _ (Tm_A F hM0) ht hu hd (by omega) EA_psh (by show psh (su (su r 30 28 0) 30 14 0) 0 (nI t) 30 28 = _; rw [psh_5 (by omega), su_row, upd_n (by omega), su_row, upd_s]; rfl) (by omega)
    rw [show (pshA (su (su r 30 28 0) 30 14 0) 0 (nI t) (nI u)) 51 = r 51 from rfl, show (pshA (su (su r 30 28 0) 30 14 0) 0 (nI t) (nI u)) 52 = r 52 from rfl, lk_congr hM0 40 (r 51) (r 52) nul nul 0 t u ht hu (fun i hi => h i hi)] at hS
    rcases hS with ⟨h1, r', h2, h3, h4, -⟩ | ⟨h1, r', h2, h3⟩
    · refine ⟨r', ?_, F.tr (Nat.le_refl 0) h3⟩
      rw [el, h2, h1]
      unfold m_areAlike_L86
      refine lp_inr ?_
      show m_areAlike_S86 1 r' = _
      unfold m_areAlike_S86
      rw [h4, if_pos (by decide), gd_t (by decide)]
      rfl
    · refine ⟨r', ?_, F.tr (Nat.le_refl 0) h3⟩
      rw [el, h2, h1]
      rfl
  | k + 1, x, r, hx, f, h => by
    obtain ⟨r', e, f'⟩ := alm_L hM0 ht hu k (x + 1) (su (su r 51 x (-2)) 52 x (-2)) (by omega) (fA_e (fA_e f (by omega)) (by omega)) (fun i hi => by
      rw [su_row, su_ne (by omega), su_row, su_ne (by omega)]
      by_cases hix : i = x
      · subst hix; rw [upd_s, upd_s]; exact ⟨rfl, rfl⟩
      · rw [upd_n hix, upd_n hix]; exact h i (by omega))
    refine ⟨r', Eq.trans ?_ e, f'⟩
    unfold m_areAlike_L34
    refine lp_inl ?_
    show m_areAlike_S34 (nI t) (nI u) (nI x) r = _
    unfold m_areAlike_S34
    rw [if_neg (show ¬ (26 : Int32) ≤ nI x from nI_ge (b := 26) (by omega) (by decide)), gd_t (ix_nI (by omega) (by decide)), ltS, gd_t (ix_nI (by omega) (by decide)), ltS, nI_clamp (by omega), nI_1]
theorem ALM {c r : jS} {T n t u : Nat} (hM : Tm c r T n) (ht : t < n) (hu : u < n) : ∃ r', m_areAlike r (nI t) (nI u) = some (b2 (lk c 40 nul nul 0 t u), r') ∧ fA 0 r r' := by
  have h4 := hM.2.2.1
  obtain ⟨⟨-, -, -, -, -, -, -, r40, r41⟩, ⟨z1, -, z2, -⟩, -⟩ := (hM.2.2.2 t ht).1
  obtain ⟨⟨-, -, -, -, -, -, -, s40, s41⟩, ⟨y1, -, y2, -⟩, -⟩ := (hM.2.2.2 u hu).1
  have i1 : ix (nI t) 400 = true := ix_nI (by omega) (by decide)
  have i2 : ix (nI u) 400 = true := ix_nI (by omega) (by decide)
  have no : ¬ (szN c t = szN c u ∧ dpN c t = dpN c u) → lk c 40 nul nul 0 t u = false := by
    intro h
    cases hL : lk c 40 nul nul 0 t u with
    | false => rfl
    | true => exact absurd (lk_size hM _ _ _ _ _ _ ht hu hL) h
  unfold m_areAlike
  simp only [gd_t i1, gd_t i2]
  rw [nI_clamp (show t < 2 ^ 31 by omega), nI_clamp (show u < 2 ^ 31 by omega), r40, s40, r41, s41]
  by_cases h1 : c 13 t = c 13 u
  · rw [if_pos h1]
    by_cases h2 : c 14 t = c 14 u
    · rw [if_pos h2]
      exact alm_L hM ht hu 26 0 r (by omega) fA.rf (fun i hi => by omega)
    · rw [if_neg h2]
      refine ⟨r, ?_, fA.rf⟩
      rw [no (fun q => h2 (by rw [z2, y2, q.2]))]
      rfl
  · rw [if_neg h1]
    refine ⟨r, ?_, fA.rf⟩
    rw [no (fun q => h1 (by rw [z1, y1, q.1]))]
    rfl
theorem keep_A {c c' r r' : jS} {T n : Nat} (hc : ∀ p, p ≠ 21 → p ≠ 22 → c' p = c p) (f : fA 0 r r') (hT : Ty c r T) (hM : Tm c r T n) (hO : Oth c r T) : Ty c' r' T ∧ Tm c' r' T n ∧ Oth c' r' T := by
  refine ⟨?_, ?_, ?_⟩
  · unfold Ty lnN at *
    rw [hc 1 (by omega) (by omega), hc 2 (by omega) (by omega), hc 3 (by omega) (by omega), hc 4 (by omega) (by omega), f.2.1 0 (by omega) (by omega), f.1 31 (by omega) (by omega), f.1 32 (by omega) (by omega), f.1 33 (by omega) (by omega)]
    exact hT
  · exact Tm_of (Nat.le_refl n) (fun p h1 h2 t ht => by rw [hc p (by omega) (by omega)]) (AgM_A f) (fun i _ => by rw [hc 4 (by omega) (by omega)]) (by rw [hc 5 (by omega) (by omega)]; exact hM.1) (by rw [f.2.1 5 (by omega) (by omega)]; exact hM.2.1) hM
  · unfold Oth at *
    rw [hc 0 (by omega) (by omega), hc 17 (by omega) (by omega), hc 18 (by omega) (by omega), hc 26 (by omega) (by omega), hc 27 (by omega) (by omega), hc 28 (by omega) (by omega), hc 29 (by omega) (by omega), f.1 34 (by omega) (by omega), f.1 55 (by omega) (by omega), f.1 59 (by omega) (by omega), f.2.1 24 (by omega) (by omega), f.2.1 25 (by omega) (by omega), f.2.1 31 (by omega) (by omega), f.2.1 33 (by omega) (by omega), f.2.1 40 (by omega) (by omega)]
    exact hO
theorem op_alike : Op_alike Inv := by
  intro c r a1 a2 hI
  obtain ⟨T, n, hT, hM, hO⟩ := id hI
  unfold xc_alike m_alike
  rcases term_cases hM.1 hM.2.1 hM.2.2.1 a1 with ⟨t, ht, rfl, e1, e2⟩ | ⟨e1, e2⟩
  · rcases term_cases hM.1 hM.2.1 hM.2.2.1 a2 with ⟨u, hu, rfl, e3, e4⟩ | ⟨e3, e4⟩
    · obtain ⟨c', q1, hc⟩ := ALX hM ht hu
      obtain ⟨r', q2, f⟩ := ALM hM ht hu
      refine ⟨b2 (lk c 40 nul nul 0 t u), c', r', ?_, ?_, T, n, keep_A hc f hT hM hO⟩
      · rw [e1, ob_s, if_neg n10, e3, ob_s, if_neg n10, q1, bd_s, b2_if]
      · rw [e2, ob_s, if_neg n10, e4, ob_s, if_neg n10, q2, bd_s, b2_if]
    · exact ⟨-1, c, r, by rw [e1, ob_s, if_neg n10, e3, ob_s, if_pos rfl], by rw [e2, ob_s, if_neg n10, e4, ob_s, if_pos rfl], hI⟩
  · exact ⟨-1, c, r, by rw [e1, ob_s, if_pos rfl], by rw [e2, ob_s, if_pos rfl], hI⟩
theorem least_L {T n t : Nat} : ∀ (k u : Nat) (c r : jS), u + k = t → t < n → Ty c r T → Tm c r T n → Oth c r T →
    ∃ v c' r', xc_least_L15 (nI t) (nI u) c = some (v, c') ∧ m_least_L12 (nI t) (nI u) r = some (v, r') ∧ Inv c' r'
  | 0, u, c, r, hk, ht, hT, hM, hO => by
    have hut : u = t := by omega
    subst hut
    have h4 := hM.2.2.1
    obtain ⟨r', q2, f⟩ := ALM hM ht ht
    have hd := (hM.2.2.2 u ht).1.2.1.2.2.2.1
    rw [lk_refl hM 40 nul 0 u ht hd] at q2
    refine ⟨nI u, c, r', ?_, ?_, T, n, keep_A (fun _ _ _ => rfl) f hT hM hO⟩
    · unfold xc_least_L15
      refine lp_inr ?_
      show xc_least_S15 (nI u) (nI u) c = _
      unfold xc_least_S15
      rw [if_pos (nI_le (Nat.le_refl u) (by omega))]
    · unfold m_least_L12
      refine lp_inr ?_
      show m_least_S12 (nI u) (nI u) r = _
      unfold m_least_S12
      rw [q2, bd_s, if_neg (by decide)]
  | k + 1, u, c, r, hk, ht, hT, hM, hO => by
    have h4 := hM.2.2.1
    obtain ⟨c', q1, hc⟩ := ALX hM ht (show u < n by omega)
    obtain ⟨r', q2, f⟩ := ALM hM ht (show u < n by omega)
    obtain ⟨hT', hM', hO'⟩ := keep_A hc f hT hM hO
    cases hL : lk c 40 nul nul 0 t u with
    | true =>
      rw [hL] at q1 q2
      refine ⟨nI u, c', r', ?_, ?_, T, n, hT', hM', hO'⟩
      · unfold xc_least_L15
        refine lp_inr ?_
        show xc_least_S15 (nI t) (nI u) c = _
        unfold xc_least_S15
        rw [if_neg (nI_ge (by omega) (by omega)), q1, bd_s, if_neg (by decide)]
      · unfold m_least_L12
        refine lp_inr ?_
        show m_least_S12 (nI t) (nI u) r = _
        unfold m_least_S12
        rw [q2, bd_s, if_neg (by decide)]
    | false =>
      rw [hL] at q1 q2
      obtain ⟨v, c2, r2, w1, w2, w3⟩ := least_L k (u + 1) c' r' (by omega) ht hT' hM' hO'
      refine ⟨v, c2, r2, Eq.trans ?_ w1, Eq.trans ?_ w2, w3⟩
      · unfold xc_least_L15
        refine lp_inl ?_
        show xc_least_S15 (nI t) (nI u) c = _
        unfold xc_least_S15
        rw [if_neg (nI_ge (by omega) (by omega)), q1, bd_s, if_pos b2_f, nI_1]
      · unfold m_least_L12
        refine lp_inl ?_
        show m_least_S12 (nI t) (nI u) r = _
        unfold m_least_S12
        rw [q2, bd_s, if_pos b2_f, nI_1]
theorem op_least : Op_least Inv := by
  intro c r a hI
  obtain ⟨T, n, hT, hM, hO⟩ := id hI
  unfold xc_least m_least
  rcases term_cases hM.1 hM.2.1 hM.2.2.1 a with ⟨t, ht, rfl, e1, e2⟩ | ⟨e1, e2⟩
  · rw [e1, ob_s, if_neg n10, e2, ob_s, if_neg n10]
    exact least_L t 0 c r (by omega) ht hT hM hO
  · exact ⟨-1, c, r, by rw [e1, ob_s, if_pos rfl], by rw [e2, ob_s, if_pos rfl], hI⟩
