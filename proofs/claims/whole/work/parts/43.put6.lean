theorem PUTOF {c r : jS} {T n t x u : Nat} (hT : Ty c r T) (hM : Tm c r T n) (ht : t < n) (hx : x < 26) (hu : u < n) :
    ∃ (v : Int32) (c' r' : jS) (n' : Nat), xPutter_into 130 c (nI t) (nI x) (nI u) = some (v, c') ∧ m_putOf r (nI t) (nI x) (nI u) = some (v, r') ∧ fX c c' ∧ fS 0 r r' ∧ AgX n c c' ∧ AgM n r r' ∧ n ≤ n' ∧ n' ≤ 400 ∧ c' 5 12 = nI n' ∧
      ((v = -3 ∧ r' 30 5 = nI n) ∨ ∃ t', t' < n' ∧ v = nI t' ∧ Tm c' r' T n' ∧ (t' = t ∨ t' = u ∨ n ≤ t')) := by
  have h4 := hM.2.2.1
  have hd := (hM.2.2.2 t ht).1.2.1.2.2.2.1
  have f14 : (su (su r 30 14 0) 30 22 (nI t)) 30 14 = nI 0 := by rw [su_row, upd_n (by omega), su_row, upd_s]; rfl
  have f22 : (su (su r 30 14 0) 30 22 (nI t)) 30 22 = nI t := by rw [su_row, upd_s]
  have fs0 : fS 0 r (su (su r 30 14 0) 30 22 (nI t)) := fS_30 (fS_30 fS.rf (by omega)) (by omega)
  have am0 : AgM n r (su (su r 30 14 0) 30 22 (nI t)) := AgM_30 (AgM_30 AgM.rf)
  have hM0 : Tm c (su (su r 30 14 0) 30 22 (nI t)) T n := Tm_r am0 (by rw [su_row, upd_n (by omega), su_row, upd_n (by omega)]) hM
  obtain ⟨v, c', r', n', q1, fx, hn, hM', ax, am, fs, el, h⟩ := put_sim T 40 130 t x u c (su (su r 30 14 0) 30 22 (nI t)) n 0 (nI n) (Ty_S fX.rf fs0 hT) hM0 ht hx hu hd (by omega) (by omega) f14 (by rw [f22]; exact nne3 (by omega))
  have hn4 := hM'.2.2.1
  have el2 : m_putOf r (nI t) (nI x) (nI u) = m_putOf_L23 (nI n) r' := by
    unfold m_putOf
    rw [ltS, ltS, m_pushPut_t f14 (by omega), bd_s, hM.2.1, el]
  have F : fS 0 r r' := fs0.tr (Nat.le_refl 0) fs
  have A := am0.tr (Nat.le_refl n) am
  rcases h with ⟨rfl, g22⟩ | ⟨t', ht', rfl, g14, g22, -, hne⟩
  · have ed : m_putOf_L23 (nI n) r' = some (-3, su r' 30 5 (nI n)) := by
      unfold m_putOf_L23
      refine lp_inr ?_
      show m_putOf_S23 (nI n) r' = _
      unfold m_putOf_S23 m_putOf_P46_23
      rw [g22, if_pos rfl, ltS, if_pos rfl, show (su r' 30 5 (nI n)) 30 22 = -3 from (by rw [su_row, upd_n (by omega)]; exact g22)]
      by_cases h0 : r' 30 14 ≤ 0
      · rw [if_pos h0]
      · rw [if_neg h0]
    exact ⟨-3, c', su r' 30 5 (nI n), n', q1, el2.trans ed, fx, fS_30 F (by omega), ax, AgM_30 A, hn, hn4, hM'.1, Or.inl ⟨rfl, by rw [su_row, upd_s]⟩⟩
  · have ed : m_putOf_L23 (nI n) r' = some (nI t', su r' 30 5 (r' 30 5)) := by
      unfold m_putOf_L23
      refine lp_inr ?_
      show m_putOf_S23 (nI n) r' = _
      unfold m_putOf_S23 m_putOf_P46_23
      rw [g14, if_pos (by decide), g22, if_neg (nne3 (by omega)), ltS, show (su r' 30 5 (r' 30 5)) 30 22 = nI t' from (by rw [su_row, upd_n (by omega)]; exact g22)]
    exact ⟨nI t', c', su r' 30 5 (r' 30 5), n', q1, el2.trans ed, fx, fS_30 F (by omega), ax, AgM_30 A, hn, hn4, hM'.1, Or.inr ⟨t', ht', rfl, Tm_r (AgM_30 AgM.rf) (by rw [su_row, upd_s]) hM', hne⟩⟩
/-- an answer that may be undone -/
theorem end_ok {c c' r r' : jS} {T n n' : Nat} {v : Int32} (hT : Ty c r T) (hM : Tm c r T n) (hO : Oth c r T) (fx : fX c c') (fs : fS 0 r r') (ax : AgX n c c') (am : AgM n r r') (hn : n ≤ n') (hn4 : n' ≤ 400) (h5 : c' 5 12 = nI n') (hv : (v < 0 ∧ r' 30 5 = nI n) ∨ ∃ t', t' < n' ∧ v = nI t' ∧ Tm c' r' T n') :
    ∃ c2, xc_keptOrUndone c' v (nI n) = some (v, c2) ∧ Inv c2 r' := by
  rcases hv with ⟨hv, h30⟩ | ⟨t', ht', rfl, hM'⟩
  · obtain ⟨c2, e, k2, k3, k4⟩ := cut_ok h5 hn hn4
    refine ⟨c2, ?_, T, n, Ty_S (p := 0) (fx.tr k2) fs hT, Tm_back hM ax am fx (k3 n) k2 AgM.rf k4 h30, Oth_S (p := 0) (fx.tr k2) fs hO⟩
    unfold xc_keptOrUndone
    have h0 : ¬ 0 ≤ v := by
      rw [Int32.le_iff_toInt_le]
      rw [Int32.lt_iff_toInt_lt] at hv
      omega
    rw [if_neg h0, e, bd_s]
  · exact ⟨c', kept_ok (n' := n') (by omega), T, n', Ty_S (p := 0) fx fs hT, hM', Oth_S (p := 0) fx fs hO⟩
theorem op_put : Op_put Inv := by
  intro c r a1 a2 a3 hI
  obtain ⟨T, n, hT, hM, hO⟩ := id hI
  unfold xc_put m_put
  rcases term_cases hM.1 hM.2.1 hM.2.2.1 a1 with ⟨t, ht, rfl, e1, e2⟩ | ⟨e1, e2⟩
  · rcases letter_cases (c := c) (r := r) a2 with ⟨x, hx, rfl, e3, e4⟩ | ⟨e3, e4⟩
    · rcases term_cases hM.1 hM.2.1 hM.2.2.1 a3 with ⟨u, hu, rfl, e5, e6⟩ | ⟨e5, e6⟩
      · obtain ⟨v, c', r', n', q1, q2, fx, fs, ax, am, hn, hn4, h5, h⟩ := PUTOF hT hM ht hx hu
        have hv : (v < 0 ∧ r' 30 5 = nI n) ∨ ∃ t', t' < n' ∧ v = nI t' ∧ Tm c' r' T n' := by
          rcases h with ⟨rfl, h⟩ | ⟨t', h1, h2, h3, -⟩
          · exact Or.inl ⟨by decide, h⟩
          · exact Or.inr ⟨t', h1, h2, h3⟩
        obtain ⟨c2, k1, k2⟩ := end_ok hT hM hO fx fs ax am hn hn4 h5 hv
        refine ⟨v, c2, r', ?_, ?_, k2⟩
        · rw [e1, ob_s, if_neg n10, e3, ob_s, if_neg n10, e5, ob_s, if_neg n10, show xTerms_total c = some (nI n) from congrArg some hM.1, ob_s, q1, bd_s, k1, bd_s]
        · rw [e2, ob_s, if_neg n10, e4, ob_s, if_neg n10, e6, ob_s, if_neg n10, q2, bd_s]
      · exact ⟨-1, c, r, by rw [e1, ob_s, if_neg n10, e3, ob_s, if_neg n10, e5, ob_s, if_pos rfl], by rw [e2, ob_s, if_neg n10, e4, ob_s, if_neg n10, e6, ob_s, if_pos rfl], hI⟩
    · exact ⟨-1, c, r, by rw [e1, ob_s, if_neg n10, e3, ob_s, if_pos rfl], by rw [e2, ob_s, if_neg n10, e4, ob_s, if_pos rfl], hI⟩
  · exact ⟨-1, c, r, by rw [e1, ob_s, if_pos rfl], by rw [e2, ob_s, if_pos rfl], hI⟩
