theorem AgX_T {T n : Nat} {c c' : jS} (h : fXT T c c') : AgX n c c' := fun p h1 h2 t ht => by rw [h.1 p (by omega)]
theorem AgM_T {T n : Nat} {r r' : jS} (h : fMT T r r') : AgM n r r' := ⟨fun p h1 h2 h3 t ht => by rw [h.1 p (by omega)], fun j hj => by rw [h.1 39 (by omega)], fun j hj => by rw [h.1 42 (by omega)]⟩
theorem Tm_fT {T n : Nat} {c c' r r' : jS} (hx : fXT T c c') (hm : fMT T r r') (h : Tm c r T n) : Tm c' r' T n :=
  Tm_of (Nat.le_refl n) (AgX_T hx) (AgM_T hm) (fun i hi => (hx.2 i hi).2.2) (by rw [hx.1 5 (by omega)]; exact h.1) (by rw [hm.2.1 5 (by omega)]; exact h.2.1) h
theorem Oth_mono {c r : jS} {T T' : Nat} (hT : T ≤ T') (h : Oth c r T) : Oth c r T' := by
  refine ⟨fun x hx => ?_, h.2⟩
  obtain ⟨a, b⟩ := h.1 x hx
  refine ⟨a, ?_⟩
  rcases b with b | ⟨y, hy, b⟩
  · exact Or.inl b
  · exact Or.inr ⟨y, by omega, b⟩
theorem Oth_fT {c c' r r' : jS} {T : Nat} (hx : fXT T c c') (hm : fMT T r r') (h : Oth c r T) : Oth c' r' T := by
  unfold Oth at *
  rw [hx.1 0 (by omega), hx.1 17 (by omega), hx.1 18 (by omega), hx.1 26 (by omega), hx.1 27 (by omega), hx.1 28 (by omega), hx.1 29 (by omega), hm.1 34 (by omega), hm.1 55 (by omega), hm.1 59 (by omega), hm.2.1 24 (by omega), hm.2.1 25 (by omega), hm.2.1 31 (by omega), hm.2.1 33 (by omega), hm.2.1 40 (by omega)]
  exact h
theorem op_arrow : Op_arrow Inv := by
  intro c r a1 a2 hI
  obtain ⟨T, n, hT, hM, hO⟩ := id hI
  unfold xc_arrow m_arrow
  rcases type_cases hT.1 hT.2.1 hT.2.2.2.1 a1 with ⟨a, ha, rfl, e1, e2⟩ | ⟨e1, e2⟩
  · rcases type_cases hT.1 hT.2.1 hT.2.2.2.1 a2 with ⟨b, hb, rfl, e3, e4⟩ | ⟨e3, e4⟩
    · obtain ⟨v, c', r', q1, q2, T', hTT, hT', fx, fm, -⟩ := ARW hT ha hb
      refine ⟨v, c', r', ?_, ?_, T', n, hT', Tm_mono hTT (Tm_fT fx fm hM), Oth_mono hTT (Oth_fT fx fm hO)⟩
      · rw [e1, ob_s, if_neg n10, e3, ob_s, if_neg n10, q1, bd_s]
      · rw [e2, ob_s, if_neg n10, e4, ob_s, if_neg n10, q2, bd_s]
    · exact ⟨-1, c, r, by rw [e1, ob_s, if_neg n10, e3, ob_s, if_pos rfl], by rw [e2, ob_s, if_neg n10, e4, ob_s, if_pos rfl], hI⟩
  · exact ⟨-1, c, r, by rw [e1, ob_s, if_pos rfl], by rw [e2, ob_s, if_pos rfl], hI⟩
theorem m_part_t {c r : jS} {T n t k : Nat} (hM : Tm c r T n) (ht : t < n) (hk : k < 3) : m_part r (nI t) (nI k) = some (r 39 (3 * t + k)) := by
  have h4 := hM.2.2.1
  unfold m_part
  rw [ad3, gd_t (ix_nI (by omega) (by decide)), nI_clamp (by omega)]
theorem op_told : Op_told Inv := by
  intro c r a1 a2 hI
  obtain ⟨T, n, hT, hM, hO⟩ := id hI
  unfold xc_told m_told
  rcases term_cases hM.1 hM.2.1 hM.2.2.1 a1 with ⟨t, ht, rfl, e1, e2⟩ | ⟨e1, e2⟩
  · have h4 := hM.2.2.1
    obtain ⟨⟨r35, r36, r37, r38, r39, r39b, r39c, r40, r41⟩, -⟩ := (hM.2.2.2 t ht).1
    have hin : ∀ j : Nat, j ≤ 8 → m_in r (nI j) 0 8 = some 1 := fun j hj => m_in_t (a := 0) (b := 8) (by omega) hj (by decide)
    rw [e1, ob_s, if_neg n10, e2, ob_s, if_neg n10, x_kindOf_t hM.1 h4 ht, ob_s, x_sizeOf_t hM.1 h4 ht, ob_s, x_depthOf_t hM.1 h4 ht, ob_s, x_numberOf_t hM.1 h4 ht, ob_s, x_letterOf_t hM.1 h4 ht, ob_s, x_typeOf_t hM.1 h4 ht, ob_s, x_firstOf_t hM.1 h4 ht, ob_s, x_secondOf_t hM.1 h4 ht, ob_s, x_thirdOf_t hM.1 h4 ht, ob_s]
    have g : ∀ {α : Type} {x : Option α}, gd (ix (nI t) 400) x = x := fun {α x} => gd_t (ix_nI (by omega) (by decide))
    simp only [g, nI_clamp (show t < 2 ^ 31 by omega), r35, r36, r37, r38, r40, r41]
    by_cases k0 : a2 = 0
    · subst k0
      exact ⟨_, by rw [if_pos rfl], by rw [show m_in r 0 0 8 = some 1 from hin 0 (by omega), ob_s, if_neg n10, if_pos rfl], hI⟩
    by_cases k1 : a2 = 1
    · subst k1
      exact ⟨_, by rw [if_neg k0, if_pos rfl], by rw [show m_in r 1 0 8 = some 1 from hin 1 (by omega), ob_s, if_neg n10, if_neg k0, if_pos rfl], hI⟩
    by_cases k2 : a2 = 2
    · subst k2
      exact ⟨_, by rw [if_neg k0, if_neg k1, if_pos rfl], by rw [show m_in r 2 0 8 = some 1 from hin 2 (by omega), ob_s, if_neg n10, if_neg k0, if_neg k1, if_pos rfl], hI⟩
    by_cases k3 : a2 = 3
    · subst k3
      exact ⟨_, by rw [if_neg k0, if_neg k1, if_neg k2, if_pos rfl], by rw [show m_in r 3 0 8 = some 1 from hin 3 (by omega), ob_s, if_neg n10, if_neg k0, if_neg k1, if_neg k2, if_pos rfl], hI⟩
    by_cases k4 : a2 = 4
    · subst k4
      exact ⟨_, by rw [if_neg k0, if_neg k1, if_neg k2, if_neg k3, if_pos rfl], by rw [show m_in r 4 0 8 = some 1 from hin 4 (by omega), ob_s, if_neg n10, if_neg k0, if_neg k1, if_neg k2, if_neg k3, if_pos rfl], hI⟩
    by_cases k5 : a2 = 5
    · subst k5
      exact ⟨_, by rw [if_neg k0, if_neg k1, if_neg k2, if_neg k3, if_neg k4, if_pos rfl], by rw [show m_in r 5 0 8 = some 1 from hin 5 (by omega), ob_s, if_neg n10, if_neg k0, if_neg k1, if_neg k2, if_neg k3, if_neg k4, if_pos rfl], hI⟩
    by_cases k6 : a2 = 6
    · subst k6
      exact ⟨_, by rw [if_neg k0, if_neg k1, if_neg k2, if_neg k3, if_neg k4, if_neg k5, if_pos rfl], by rw [show m_in r 6 0 8 = some 1 from hin 6 (by omega), ob_s, if_neg n10, if_neg k0, if_neg k1, if_neg k2, if_neg k3, if_neg k4, if_neg k5, show (6 : Int32) - 6 = nI 0 by decide, m_part_t hM ht (by omega), ob_s, Nat.add_zero, r39], hI⟩
    by_cases k7 : a2 = 7
    · subst k7
      exact ⟨_, by rw [if_neg k0, if_neg k1, if_neg k2, if_neg k3, if_neg k4, if_neg k5, if_neg k6, if_pos rfl], by rw [show m_in r 7 0 8 = some 1 from hin 7 (by omega), ob_s, if_neg n10, if_neg k0, if_neg k1, if_neg k2, if_neg k3, if_neg k4, if_neg k5, show (7 : Int32) - 6 = nI 1 by decide, m_part_t hM ht (by omega), ob_s, r39b], hI⟩
    by_cases k8 : a2 = 8
    · subst k8
      exact ⟨_, by rw [if_neg k0, if_neg k1, if_neg k2, if_neg k3, if_neg k4, if_neg k5, if_neg k6, if_neg k7, if_pos rfl], by rw [show m_in r 8 0 8 = some 1 from hin 8 (by omega), ob_s, if_neg n10, if_neg k0, if_neg k1, if_neg k2, if_neg k3, if_neg k4, if_neg k5, show (8 : Int32) - 6 = nI 2 by decide, m_part_t hM ht (by omega), ob_s, r39c], hI⟩
    have hout : m_in r a2 0 8 = some 0 := by
      by_cases h0 : a2 < 0
      · exact m_in_lo h0
      · refine m_in_hi h0 ?_
        obtain ⟨j, hj, rfl⟩ := nI_of h0
        have q : ∀ i : Nat, i ≤ 8 → ¬ nI j = nI i → j ≠ i := fun i _ h e => h (by rw [e])
        have := q 0 (by omega) k0
        have := q 1 (by omega) k1
        have := q 2 (by omega) k2
        have := q 3 (by omega) k3
        have := q 4 (by omega) k4
        have := q 5 (by omega) k5
        have := q 6 (by omega) k6
        have := q 7 (by omega) k7
        have := q 8 (by omega) k8
        exact nI_lt (a := 8) (by omega) hj
    exact ⟨-1, by rw [if_neg k0, if_neg k1, if_neg k2, if_neg k3, if_neg k4, if_neg k5, if_neg k6, if_neg k7, if_neg k8], by rw [hout, ob_s, if_pos rfl], hI⟩
  · exact ⟨-1, by rw [e1, ob_s, if_pos rfl], by rw [e2, ob_s, if_pos rfl], hI⟩
