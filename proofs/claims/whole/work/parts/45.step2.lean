theorem L18_here {n0 m : Int32} {t v : Int32} {r r' : jS} (h : m_stepHere r t = some (v, r')) : m_stepOf_L18 n0 m t (-2) r = m_stepOf_L73 n0 m v r' := by
  unfold m_stepOf_L18
  refine lp_om ?_
  show m_stepOf_S18 n0 m t (-2) r = _
  unfold m_stepOf_S18
  rw [if_pos rfl, h, bd_s]
theorem neK {k j : Nat} (hk : k < 7) (hj : j < 7) (h : k ≠ j) : ¬ nI k = nI j := fun e => h ((nI_eq (by omega) (by omega)).mp e)
theorem neK0 {k : Nat} (hk : k < 7) (h : k ≠ 0) : ¬ nI k = (0 : Int32) := neK (j := 0) hk (by omega) h
theorem neK2 {k : Nat} (hk : k < 7) (h : k ≠ 2) : ¬ nI k = (2 : Int32) := neK (j := 2) hk (by omega) h
theorem SR_put {T n t m b x u : Nat} {n0 : Int32} {c r : jS} (hT : Ty c r T) (hM : Tm c r T n) (ht : t < n) (hb : b < t) (hx : x < 26) (hu : u < t) (hh : ∀ v r', m_putOf r (nI b) (nI x) (nI u) = some (v, r') → m_stepHere r (nI t) = some (v, r')) :
    ∃ (v : Int32) (c' : jS), xPutter_into 130 c (nI b) (nI x) (nI u) = some (v, c') ∧ SR T n t m n0 c r (m_stepOf_L18 n0 (nI m) (nI t) (-2) r) v c' := by
  obtain ⟨v, c', r', n', q1, q2, fx, fs, ax, am, hn, hn4, h5, h⟩ := PUTOF hT hM (by omega : b < n) hx (by omega : u < n)
  refine ⟨v, c', q1, r', n', L18_here (hh v r' q2), fx, fW_S fs, hn, hn4, h5, ax, am, ?_⟩
  rcases h with ⟨rfl, -⟩ | ⟨t', h1, h2, h3, h4⟩
  · exact Or.inl rfl
  · exact Or.inr (Or.inr ⟨t', h1, h2, h3, by omega⟩)
set_option maxHeartbeats 1000000 in
theorem step_sim (T : Nat) : ∀ d, StpS T d
  | 0 => fun f t m n c r n0 hT hM ht hd => absurd (dp_pos hM ht) (by omega)
  | d + 1 => by
    have ih := step_sim T d
    intro f t m n c r n0 hT hM ht hd hf hm
    obtain ⟨f, rfl⟩ : ∃ f', f = f' + 3 := ⟨f - 3, by omega⟩
    have h4 := hM.2.2.1
    obtain ⟨hC, k, lx, ty, oa, ob', od, hN⟩ := hM.2.2.2 t ht
    obtain ⟨⟨r35, r36, r37, r38, r39, r39b, r39c, r40, r41⟩, -⟩ := hC
    obtain ⟨hs, ⟨c6, c8, c9, c10, c11, c12, -⟩, ⟨-, hdp⟩, -, -⟩ := id hN
    have hk7 := hs.1
    have i4 : ix (nI t) 400 = true := ix_nI (by omega) (by decide)
    have cl : (nI t).toNatClampNeg = t := nI_clamp (by omega)
    have p0 : m_part r (nI t) 0 = some (pv oa) := by rw [show m_part r (nI t) 0 = _ from m_part_t (k := 0) hM ht (by omega), Nat.add_zero, r39, c10]
    have p1 : m_part r (nI t) 1 = some (pv ob') := by rw [show m_part r (nI t) 1 = _ from m_part_t (k := 1) hM ht (by omega), r39b, c11]
    have p2 : m_part r (nI t) 2 = some (pv od) := by rw [show m_part r (nI t) 2 = _ from m_part_t (k := 2) hM ht (by omega), r39c, c12]
    have kd : ∀ a, a < t → ∃ ka lxa tya oaa oba oda, Nod c r T a ka lxa tya oaa oba oda ∧ ka < 7 ∧ xTerms_kindOf c (nI a) = some (nI ka) ∧ r 35 a = nI ka ∧ r 36 a = c 7 a ∧ xTerms_numberOf c (nI a) = some (c 7 a) := by
      intro a ha
      obtain ⟨⟨⟨q35, q36, -⟩, -⟩, ka, lxa, tya, oaa, oba, oda, hNa⟩ := hM.2.2.2 a (by omega)
      exact ⟨ka, lxa, tya, oaa, oba, oda, hNa, hNa.1.1, by rw [x_kindOf_t hM.1 h4 (by omega), hNa.2.1.1], by rw [q35, hNa.2.1.1], q36, x_numberOf_t hM.1 h4 (by omega)⟩
    rw [xStepper_stepOf_s]
    unfold b_xStepper_stepOf
    rw [x_kindOf_t hM.1 h4 ht, ob_s, c6]
    -- the first part is stepped
    have first : ∀ (a : Nat), oa = some a → (k = 3 ∨ k = 5 ∨ k = 6) → lx = none → ty = none → ∀ g, 3 * d + 1 ≤ g → ∃ (v : Int32) (c' : jS), xStepper_stepOfFirst (g + 1) c (nI t) = some (v, c') ∧ SR T n t m n0 c r (m_stepOf_L18 n0 (nI m) (nI t) 0 r) v c' := by
      intro a ea hk el ey g hg
      subst ea el ey
      have hda : dpN c a ≤ d := by simp [oz] at hdp; omega
      obtain ⟨v1, v, c1, c', s1, s2, s3⟩ := step_in ih (f := g) (j := 0) (p := a) (m := m) (n0 := n0) hT hM ht hN (by omega) (Or.inl ⟨rfl, rfl⟩) hda hg (by omega)
      refine ⟨v, c', ?_, s2⟩
      rw [xStepper_stepOfFirst_s]
      unfold b_xStepper_stepOfFirst
      rw [x_firstOf_t hM.1 h4 ht, ob_s, c10, show xStepper_stepOf g c (pv (some a)) = _ from s1, bd_s]
      rcases s3 with ⟨q, rfl, rfl⟩ | ⟨n1, q0, q1, q2, q3, q4, q5⟩
      · have h0 : ¬ 0 ≤ v := by
          rw [Int32.le_iff_toInt_le]
          rw [Int32.lt_iff_toInt_lt] at q
          omega
        rw [if_neg h0]
      · rw [if_pos q0, x_secondOf_t q3 q2 (by omega), ob_s, x_thirdOf_t q3 q2 (by omega), ob_s, q4 11 (by omega) (by omega) t ht, c11, q4 12 (by omega) (by omega) t ht, c12]
        rw [if_pos rfl, if_neg (by decide)] at q5
        rw [q5, bd_s]
    have none3 : k < 3 → ∃ (k' v : Int32) (c' : jS), m_partToStep r (nI t) = some k' ∧ (some ((-2 : Int32), c)) = some (v, c') ∧ SR T n t m n0 c r (m_stepOf_L18 n0 (nI m) (nI t) k' r) v c' := by
      intro hk
      have g3 : ¬ nI k = (3 : Int32) := neK (j := 3) hk7 (by omega) (by omega)
      have g4 : ¬ nI k = (4 : Int32) := neK (j := 4) hk7 (by omega) (by omega)
      have g5 : ¬ nI k = (5 : Int32) := neK (j := 5) hk7 (by omega) (by omega)
      have g6 : ¬ nI k = (6 : Int32) := neK (j := 6) hk7 (by omega) (by omega)
      refine ⟨-2, -2, c, ?_, rfl, r, n, L18_here ?_, fX.rf, fW.rf, Nat.le_refl n, h4, hM.1, AgX.rf, AgM.rf, Or.inr (Or.inl ⟨rfl, rfl⟩)⟩
      · unfold m_partToStep
        rw [gd_t i4, cl, r35, c6, if_neg g3, if_neg g5, if_neg g6]
      · unfold m_stepHere
        rw [p0, ob_s, gd_t i4, cl, r35, c6, if_neg g3, if_neg g4, if_neg g5, if_neg g6]
    rcases shp_cases hs with ⟨rfl, -⟩ | ⟨rfl, -⟩ | ⟨rfl, -⟩ | ⟨rfl, a, b, ha, hb, rfl, rfl, rfl, rfl, rfl⟩ | ⟨rfl, y, a, b, hy, ha, hb, rfl, rfl, rfl, rfl, rfl⟩ | ⟨rfl, a, b, ha, hb, rfl, rfl, rfl, rfl, rfl⟩ | ⟨rfl, a, b, e, ha, hb, he, rfl, rfl, rfl, rfl, rfl⟩
    · rw [if_neg (by decide), if_neg (by decide), if_neg (by decide), if_neg (by decide)]
      exact none3 (by omega)
    · rw [if_neg (by decide), if_neg (by decide), if_neg (by decide), if_neg (by decide)]
      exact none3 (by omega)
    · rw [if_neg (by decide), if_neg (by decide), if_neg (by decide), if_neg (by decide)]
      exact none3 (by omega)
    · -- a call
      obtain ⟨ka, lxa, tya, oaa, oba, oda, hNa, hka, x6, q35, -, -⟩ := kd a ha
      rw [if_pos (show nI 3 = (3 : Int32) from rfl), xStepper_stepOfCall_s]
      unfold b_xStepper_stepOfCall
      rw [x_firstOf_t hM.1 h4 ht, ob_s, c10, show xTerms_kindOf c (pv (some a)) = _ from x6, ob_s]
      have hps : m_partToStep r (nI t) = some (if ka = 2 then -2 else 0) := by
        unfold m_partToStep
        rw [gd_t i4, cl, r35, c6, if_pos (show nI 3 = (3 : Int32) from rfl), p0, ob_s, show ix (pv (some a)) 400 = true from ix_nI (by omega) (by decide), gd_t rfl, show (pv (some a)).toNatClampNeg = a from nI_clamp (by omega), q35]
        by_cases h2 : ka = 2
        · subst h2; rw [if_pos (show nI 2 = (2 : Int32) from rfl), if_pos rfl]
        · rw [if_neg (neK2 hka h2), if_neg h2]
      by_cases h2 : ka = 2
      · subst h2
        rcases shp_cases hNa.1 with ⟨q, -⟩ | ⟨q, -⟩ | ⟨-, z, w, g, hz, hw, hg, rfl, rfl, rfl, rfl, rfl⟩ | ⟨q, -⟩ | ⟨q, -⟩ | ⟨q, -⟩ | ⟨q, -⟩
        · omega
        · omega
        · obtain ⟨⟨s35, s36, s37, s38, s39, s39b, s39c, s40, s41⟩, -⟩ := (hM.2.2.2 a (by omega)).1
          obtain ⟨-, ⟨d6, d8, d9, d10, d11, d12, -⟩, -⟩ := id hNa
          rw [if_pos rfl] at hps
          obtain ⟨v, c', u1, u2⟩ := SR_put (m := m) (n0 := n0) hT hM ht (show g < t by omega) hz hb (fun v r' hp => by
            unfold m_stepHere
            rw [p0, ob_s, gd_t i4, cl, r35, c6, if_pos (show nI 3 = (3 : Int32) from rfl), show m_part r (pv (some a)) 0 = _ from m_part_t (k := 0) hM (show a < n by omega) (by omega), ob_s, Nat.add_zero, s39, d10, gd_t (show ix (pv (some a)) 400 = true from ix_nI (by omega) (by decide)), p1, ob_s, show (pv (some a)).toNatClampNeg = a from nI_clamp (by omega), s37, d8, show m_putOf r (pv (some g)) (pv (some z)) (pv (some b)) = some (v, r') from hp, bd_s])
          refine ⟨-2, v, c', hps, ?_, u2⟩
          rw [if_pos (show nI 2 = (2 : Int32) from rfl), show xTerms_firstOf c (pv (some a)) = _ from x_firstOf_t hM.1 h4 (by omega), ob_s, d10, show xTerms_letterOf c (pv (some a)) = _ from x_letterOf_t hM.1 h4 (by omega), ob_s, d8, x_secondOf_t hM.1 h4 ht, ob_s, c11, show xPutter_into 130 c (pv (some g)) (pv (some z)) (pv (some b)) = some (v, c') from u1, bd_s, bd_s]
        all_goals omega
      · rw [if_neg h2] at hps
        rw [if_neg (neK2 hka h2)]
        obtain ⟨v, c', w1, w2⟩ := first a rfl (by omega) rfl rfl f (by omega)
        exact ⟨0, v, c', hps, by rw [w1, bd_s, bd_s], w2⟩
    · -- a let
      rw [if_neg (by decide), if_pos (show nI 4 = (4 : Int32) from rfl)]
      have hps : m_partToStep r (nI t) = some (-2) := by
        unfold m_partToStep
        rw [gd_t i4, cl, r35, c6, if_neg (by decide), if_neg (by decide), if_neg (by decide)]
      obtain ⟨v, c', u1, u2⟩ := SR_put (m := m) (n0 := n0) hT hM ht hb hy ha (fun v r' hp => by
        unfold m_stepHere
        rw [p0, ob_s, gd_t i4, cl, r35, c6, if_neg (by decide), if_pos (show nI 4 = (4 : Int32) from rfl), p1, ob_s, gd_t i4, r37, c8, show m_putOf r (pv (some b)) (pv (some y)) (pv (some a)) = some (v, r') from hp, bd_s])
      refine ⟨-2, v, c', hps, ?_, u2⟩
      rw [x_secondOf_t hM.1 h4 ht, ob_s, c11, x_letterOf_t hM.1 h4 ht, ob_s, c8, x_firstOf_t hM.1 h4 ht, ob_s, c10, show xPutter_into 130 c (pv (some b)) (pv (some y)) (pv (some a)) = some (v, c') from u1, bd_s]
    · -- a sum
      obtain ⟨ka, lxa, tya, oaa, oba, oda, hNa, hka, x6, q35, q36, x7⟩ := kd a ha
      obtain ⟨kb, lxb, tyb, oab, obb, odb, hNb, hkb, y6, t35, t36, y7⟩ := kd b hb
      rw [if_neg (by decide), if_neg (by decide), if_pos (show nI 5 = (5 : Int32) from rfl), xStepper_stepOfSum_s]
      unfold b_xStepper_stepOfSum
      rw [x_firstOf_t hM.1 h4 ht, ob_s, c10, x_secondOf_t hM.1 h4 ht, ob_s, c11, show xTerms_kindOf c (pv (some a)) = _ from x6, ob_s]
      have hps : m_partToStep r (nI t) = some (if ka = 0 then (if kb = 0 then -2 else 1) else 0) := by
        unfold m_partToStep
        rw [gd_t i4, cl, r35, c6, if_neg (by decide), if_pos (show nI 5 = (5 : Int32) from rfl), p0, ob_s, show ix (pv (some a)) 400 = true from ix_nI (by omega) (by decide), gd_t rfl, show (pv (some a)).toNatClampNeg = a from nI_clamp (by omega), q35]
        by_cases h2 : ka = 0
        · subst h2
          rw [if_pos (show nI 0 = (0 : Int32) from rfl), if_pos rfl, p1, ob_s, show ix (pv (some b)) 400 = true from ix_nI (by omega) (by decide), gd_t rfl, show (pv (some b)).toNatClampNeg = b from nI_clamp (by omega), t35]
          by_cases h3 : kb = 0
          · subst h3; rw [if_pos (show nI 0 = (0 : Int32) from rfl), if_pos rfl]
          · rw [if_neg (neK0 hkb h3), if_neg h3]
        · rw [if_neg (neK0 hka h2), if_neg h2]
      by_cases h2 : ka = 0
      · subst h2
        rw [if_pos rfl] at hps
        rw [if_pos (show nI 0 = (0 : Int32) from rfl), show xTerms_kindOf c (pv (some b)) = _ from y6, ob_s]
        by_cases h3 : kb = 0
        · subst h3
          rw [if_pos rfl] at hps
          obtain ⟨v, c', r', e1, e2, fx, fm, ax, am, h⟩ := MK0 hT hM (c 7 a + c 7 b)
          refine ⟨-2, v, c', hps, ?_, ?_⟩
          · rw [if_pos (show nI 0 = (0 : Int32) from rfl), show xTerms_numberOf c (pv (some a)) = _ from x7, ob_s, show xTerms_numberOf c (pv (some b)) = _ from y7, ob_s, e1, bd_s, bd_s]
          · have hl : m_stepHere r (nI t) = some (v, r') := by
              unfold m_stepHere
              rw [p0, ob_s, gd_t i4, cl, r35, c6, if_neg (by decide), if_neg (by decide), if_pos (show nI 5 = (5 : Int32) from rfl), gd_t (show ix (pv (some a)) 400 = true from ix_nI (by omega) (by decide)), p1, ob_s, gd_t (show ix (pv (some b)) 400 = true from ix_nI (by omega) (by decide)), show (pv (some a)).toNatClampNeg = a from nI_clamp (by omega), show (pv (some b)).toNatClampNeg = b from nI_clamp (by omega), q36, t36, e2, bd_s]
            rcases h with ⟨rfl, rfl, h⟩ | ⟨rfl, h1, h2, -⟩
            · exact ⟨r', n, L18_here hl, fx, fW_M fm, Nat.le_refl n, h4, h.1, ax, am, Or.inl rfl⟩
            · exact ⟨r', n + 1, L18_here hl, fx, fW_M fm, by omega, by omega, h2.1, ax, am, Or.inr (Or.inr ⟨n, by omega, rfl, h2, Or.inr (Nat.le_refl n)⟩)⟩
        · rw [if_neg h3] at hps
          have hdb : dpN c b ≤ d := by simp [oz] at hdp; omega
          obtain ⟨v1, v, c1, c', s1, s2, s3⟩ := step_in ih (f := f + 1) (j := 1) (p := b) (m := m) (n0 := n0) hT hM ht hN (by omega) (Or.inr ⟨rfl, rfl⟩) hdb (by omega) (by omega)
          refine ⟨1, v, c', hps, ?_, s2⟩
          rw [if_neg (neK0 hkb h3), show xStepper_stepOf (f + 1) c (pv (some b)) = _ from s1, bd_s]
          rcases s3 with ⟨q, rfl, rfl⟩ | ⟨n1, q0, q1, q2, q3, q4, q5⟩
          · have h0 : ¬ 0 ≤ v := by
              rw [Int32.le_iff_toInt_le]
              rw [Int32.lt_iff_toInt_lt] at q
              omega
            rw [if_neg h0, bd_s]
          · rw [if_neg (by decide), if_pos rfl] at q5
            rw [if_pos q0, show xTerms_withParts c1 (nI t) (-2) (pv (some a)) v1 (-2) = some (v, c') from q5, bd_s, bd_s]
      · rw [if_neg h2] at hps
        rw [if_neg (neK0 hka h2)]
        obtain ⟨v, c', w1, w2⟩ := first a rfl (by omega) rfl rfl f (by omega)
        exact ⟨0, v, c', hps, by rw [w1, bd_s, bd_s], w2⟩
    · -- a choice
      obtain ⟨ka, lxa, tya, oaa, oba, oda, hNa, hka, x6, q35, q36, x7⟩ := kd a ha
      rw [if_neg (by decide), if_neg (by decide), if_neg (by decide), if_pos (show nI 6 = (6 : Int32) from rfl), xStepper_stepOfChoice_s]
      unfold b_xStepper_stepOfChoice
      rw [x_firstOf_t hM.1 h4 ht, ob_s, c10, show xTerms_kindOf c (pv (some a)) = _ from x6, ob_s]
      have hps : m_partToStep r (nI t) = some (if ka = 0 then -2 else 0) := by
        unfold m_partToStep
        rw [gd_t i4, cl, r35, c6, if_neg (by decide), if_neg (by decide), if_pos (show nI 6 = (6 : Int32) from rfl), p0, ob_s, show ix (pv (some a)) 400 = true from ix_nI (by omega) (by decide), gd_t rfl, show (pv (some a)).toNatClampNeg = a from nI_clamp (by omega), q35]
        by_cases h2 : ka = 0
        · subst h2; rw [if_pos (show nI 0 = (0 : Int32) from rfl), if_pos rfl]
        · rw [if_neg (neK0 hka h2), if_neg h2]
      by_cases h2 : ka = 0
      · subst h2
        rw [if_pos rfl] at hps
        rw [if_pos (show nI 0 = (0 : Int32) from rfl), show xTerms_numberOf c (pv (some a)) = _ from x7, ob_s]
        by_cases h3 : c 7 a = 0
        · rw [if_pos h3, x_thirdOf_t hM.1 h4 ht, ob_s, c12]
          refine ⟨-2, nI e, c, hps, rfl, r, n, L18_here ?_, fX.rf, fW.rf, Nat.le_refl n, h4, hM.1, AgX.rf, AgM.rf, Or.inr (Or.inr ⟨e, by omega, rfl, hM, Or.inl he⟩)⟩
          unfold m_stepHere
          rw [p0, ob_s, gd_t i4, cl, r35, c6, if_neg (by decide), if_neg (by decide), if_neg (by decide), if_pos (show nI 6 = (6 : Int32) from rfl), gd_t (show ix (pv (some a)) 400 = true from ix_nI (by omega) (by decide)), show (pv (some a)).toNatClampNeg = a from nI_clamp (by omega), q36, if_pos h3, p2, ob_s]
          rfl
        · rw [if_neg h3, x_secondOf_t hM.1 h4 ht, ob_s, c11]
          refine ⟨-2, nI b, c, hps, rfl, r, n, L18_here ?_, fX.rf, fW.rf, Nat.le_refl n, h4, hM.1, AgX.rf, AgM.rf, Or.inr (Or.inr ⟨b, by omega, rfl, hM, Or.inl hb⟩)⟩
          unfold m_stepHere
          rw [p0, ob_s, gd_t i4, cl, r35, c6, if_neg (by decide), if_neg (by decide), if_neg (by decide), if_pos (show nI 6 = (6 : Int32) from rfl), gd_t (show ix (pv (some a)) 400 = true from ix_nI (by omega) (by decide)), show (pv (some a)).toNatClampNeg = a from nI_clamp (by omega), q36, if_neg h3, p1, ob_s]
          rfl
      · rw [if_neg h2] at hps
        rw [if_neg (neK0 hka h2)]
        obtain ⟨v, c', w1, w2⟩ := first a rfl (by omega) rfl rfl f (by omega)
        exact ⟨0, v, c', hps, by rw [w1, bd_s, bd_s], w2⟩
theorem STEPOF {c r : jS} {T n t : Nat} (hT : Ty c r T) (hM : Tm c r T n) (ht : t < n) :
    ∃ (v : Int32) (c' r' : jS) (n' : Nat), xStepper_stepOf 130 c (nI t) = some (v, c') ∧ m_stepOf r (nI t) = some (v, r') ∧ fX c c' ∧ fW 0 r r' ∧ AgX n c c' ∧ AgM n r r' ∧ n ≤ n' ∧ n' ≤ 400 ∧ c' 5 12 = nI n' ∧
      ((v = -3 ∧ r' 30 5 = nI n) ∨ (v = -2 ∧ c' = c ∧ Tm c r' T n) ∨ ∃ t', t' < n' ∧ v = nI t' ∧ Tm c' r' T n') := by
  have hd := (hM.2.2.2 t ht).1.2.1.2.2.2.1
  obtain ⟨k, v, c', e1, e2, r1, n', el, fx, fw, hn, hn4, h5, ax, am, h⟩ := step_sim T 40 130 t 0 n c r (nI n) hT hM ht hd (by omega) (by omega)
  have em : m_stepOf r (nI t) = m_stepOf_L73 (nI n) (nI 0) v r1 := by
    unfold m_stepOf
    rw [e1, ob_s, hM.2.1]
    exact el
  rcases h with rfl | ⟨rfl, rfl⟩ | ⟨t', h1, rfl, h2, -⟩
  · exact ⟨-3, c', su r1 30 5 (nI n), n', e2, em.trans (L73_neg (by decide)), fx, fW_5 fw, ax, AgM_30 am, hn, hn4, h5, Or.inl ⟨rfl, by rw [su_row, upd_s]⟩⟩
  · exact ⟨-2, c', su r1 30 5 (nI n), n', e2, em.trans (L73_neg (by decide)), fx, fW_5 fw, ax, AgM_30 am, hn, hn4, h5, Or.inr (Or.inl ⟨rfl, rfl, Tm_r (AgM_30 am) (by rw [su_row, upd_s, hM.2.1]) hM⟩)⟩
  · exact ⟨nI t', c', su r1 30 5 (r1 30 5), n', e2, em.trans (L73_0 (by omega)), fx, fW_5 fw, ax, AgM_30 am, hn, hn4, h5, Or.inr (Or.inr ⟨t', h1, rfl, Tm_r (AgM_30 AgM.rf) (by rw [su_row, upd_s]) h2⟩)⟩
