theorem cut_ok {c : jS} {n n' : Nat} (h : c 5 12 = nI n') (hn : n ≤ n') (h4 : n' ≤ 400) : ∃ c', xTerms_cutTo c (nI n) = some ((), c') ∧ fX c c' ∧ (∀ m, AgX m c c') ∧ c' 5 12 = nI n := by
  unfold xTerms_cutTo
  rw [if_neg (nI_pos (by omega)), h, ltS]
  by_cases he : n' = n
  · subst he
    exact ⟨c, by rw [if_pos (nI_le (Nat.le_refl _) (by omega))], fX.rf, fun _ => AgX.rf, h⟩
  · refine ⟨su c 5 12 (nI n), by rw [if_neg (nI_ge (by omega) (by omega))], fX_5, fun m p h1 h2 t ht => by rw [su_ne (by omega)], by rw [su_row, upd_s]⟩
theorem kept_ok {c : jS} {n n' t : Nat} (ht : t < 2 ^ 31) : xc_keptOrUndone c (nI t) (nI n) = some (nI t, c) := by
  unfold xc_keptOrUndone
  rw [if_pos (nI_pos' ht)]
theorem undone_ok {c : jS} {n n' : Nat} (h : c 5 12 = nI n') (hn : n ≤ n') (h4 : n' ≤ 400) : ∃ c', xc_keptOrUndone c (-3) (nI n) = some (-3, c') ∧ fX c c' ∧ (∀ m, AgX m c c') ∧ c' 5 12 = nI n := by
  obtain ⟨c', e, h1, h2, h3⟩ := cut_ok h hn h4
  refine ⟨c', ?_, h1, h2, h3⟩
  unfold xc_keptOrUndone
  rw [if_neg (by decide), e, bd_s]
/-- the terms put back to n -/
theorem Tm_back {c c' r r' c2 r2 : jS} {T n : Nat} (hM : Tm c r T n) (ax : AgX n c c') (am : AgM n r r') (fx : fX c c') (ax2 : AgX n c' c2) (fx2 : fX c' c2) (am2 : AgM n r' r2) (h5 : c2 5 12 = nI n) (h30 : r2 30 5 = nI n) : Tm c2 r2 T n :=
  Tm_of (Nat.le_refl n) (ax.tr (Nat.le_refl n) ax2) (am.tr (Nat.le_refl n) am2) (fun i _ => by rw [fx2 4 (by omega), fx 4 (by omega)]) h5 h30 hM
theorem op_drop : Op_drop Inv := by
  intro c r a hI
  obtain ⟨T, n, hT, hM, hO⟩ := id hI
  unfold xc_drop m_drop
  rcases term_cases hM.1 hM.2.1 hM.2.2.1 a with ⟨t, ht, rfl, e1, e2⟩ | ⟨e1, e2⟩
  · have h4 := hM.2.2.1
    have hC := (hM.2.2.2 t ht).1
    have hd := hC.2.1.2.2.2.1
    have f14 : (su (su r 30 14 0) 30 22 (nI t)) 30 14 = nI 0 := by rw [su_row, upd_n (by omega), su_row, upd_s]; rfl
    have f22 : (su (su r 30 14 0) 30 22 (nI t)) 30 22 = nI t := by rw [su_row, upd_s]
    have fs0 : fS 0 r (su (su r 30 14 0) 30 22 (nI t)) := fS_30 (fS_30 fS.rf (by omega)) (by omega)
    have am0 : AgM n r (su (su r 30 14 0) 30 22 (nI t)) := AgM_30 (AgM_30 AgM.rf)
    have hM0 : Tm c (su (su r 30 14 0) 30 22 (nI t)) T n := Tm_r am0 (by rw [su_row, upd_n (by omega), su_row, upd_n (by omega)]) hM
    obtain ⟨v, c', r', n', q1, fx, hn, hM', ax, am, fs, el, h⟩ := drop_sim T 40 130 t c (su (su r 30 14 0) 30 22 (nI t)) n 0 (nI n) (Ty_S fX.rf fs0 hT) hM0 ht hd (by omega) (by omega) f14 (by rw [f22]; exact nI_ne (by omega) (by decide))
    have hn4 := hM'.2.2.1
    have el2 : ob (m_isTerm r (nI t)) (fun r1 => if r1 = 0 then some ((-1 : Int32), r) else lt (su r 30 14 (0 : Int32)) (fun c2 => lt (su c2 30 22 (nI t)) (fun c3 => bd (m_push c3 (nI t)) (fun _ c4 => m_drop_L30 (r 30 5) c4)))) = m_drop_L30 (nI n) r' := by
      rw [e2, ob_s, if_neg n10, ltS, ltS, m_push_t f14 (by omega), bd_s, hM.2.1, el]
    have F : fS 0 r r' := fs0.tr (Nat.le_refl 0) fs
    have A := am0.tr (Nat.le_refl n) am
    rw [e1, ob_s, if_neg n10, show xTerms_total c = some (nI n) from congrArg some hM.1, ob_s, q1, bd_s]
    rcases h with ⟨rfl, g22⟩ | ⟨t', ht', rfl, g14, g22⟩
    · obtain ⟨c2, k1, k2, k3, k4⟩ := undone_ok hM'.1 hn hn4
      have ed : m_drop_L30 (nI n) r' = some (-3, su r' 30 5 (nI n)) := by
        unfold m_drop_L30
        refine lp_inr ?_
        show m_drop_S30 (nI n) r' = _
        unfold m_drop_S30 m_drop_P53_30
        rw [g22, if_pos rfl, ltS, if_pos rfl, show (su r' 30 5 (nI n)) 30 22 = -3 from (by rw [su_row, upd_n (by omega)]; exact g22)]
        by_cases h0 : r' 30 14 ≤ 0
        · rw [if_pos h0]
        · rw [if_neg h0]
      refine ⟨-3, c2, su r' 30 5 (nI n), by rw [k1, bd_s], el2.trans ed, T, n, Ty_S (p := 0) (fx.tr k2) (fS_30 F (by omega)) hT, ?_, Oth_S (p := 0) (fx.tr k2) (fS_30 F (by omega)) hO⟩
      exact Tm_back hM ax A fx (k3 n) k2 (AgM_30 AgM.rf) k4 (by rw [su_row, upd_s])
    · have hv : nI t' ≠ (-3 : Int32) := nI_ne (by omega) (by decide)
      have ed : m_drop_L30 (nI n) r' = some (nI t', su r' 30 5 (r' 30 5)) := by
        unfold m_drop_L30
        refine lp_inr ?_
        show m_drop_S30 (nI n) r' = _
        unfold m_drop_S30 m_drop_P53_30
        rw [g14, if_pos (by decide), g22, if_neg hv, ltS, show (su r' 30 5 (r' 30 5)) 30 22 = nI t' from (by rw [su_row, upd_n (by omega)]; exact g22)]
      refine ⟨nI t', c', su r' 30 5 (r' 30 5), by rw [kept_ok (n' := n') (by omega), bd_s], el2.trans ed, T, n', Ty_S (p := 0) fx (fS_30 F (by omega)) hT, Tm_r (AgM_30 AgM.rf) (by rw [su_row, upd_s]) hM', Oth_S (p := 0) fx (fS_30 F (by omega)) hO⟩
  · exact ⟨-1, c, r, by rw [e1, ob_s, if_pos rfl], by rw [e2, ob_s, if_pos rfl], hI⟩
