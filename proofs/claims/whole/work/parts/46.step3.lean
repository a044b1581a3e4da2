theorem op_step : Op_step Inv := by
  intro c r a hI
  obtain ⟨T, n, hT, hM, hO⟩ := id hI
  unfold xc_step m_step
  rcases term_cases hM.1 hM.2.1 hM.2.2.1 a with ⟨t, ht, rfl, e1, e2⟩ | ⟨e1, e2⟩
  · obtain ⟨v, c', r', n', q1, q2, fx, fw, ax, am, hn, hn4, h5, h⟩ := STEPOF hT hM ht
    have k : ∃ c2, xc_keptOrUndone c' v (nI n) = some (v, c2) ∧ Inv c2 r' := by
      rcases h with ⟨rfl, h30⟩ | ⟨rfl, rfl, hM'⟩ | ⟨t', h1, rfl, hM'⟩
      · obtain ⟨c2, u1, u2, u3, u4⟩ := undone_ok h5 hn hn4
        exact ⟨c2, u1, T, n, Ty_W (m := 0) (fx.tr u2) fw hT, Tm_back hM ax am fx (u3 n) u2 AgM.rf u4 h30, Oth_W (m := 0) (fx.tr u2) fw hO⟩
      · obtain ⟨c2, u1, u2, u3, u4⟩ := cut_ok hM'.1 (Nat.le_refl n) hM'.2.2.1
        refine ⟨c2, ?_, T, n, Ty_W (m := 0) (fx.tr u2) fw hT, Tm_back hM ax am fx (u3 n) u2 AgM.rf u4 hM'.2.1, Oth_W (m := 0) (fx.tr u2) fw hO⟩
        unfold xc_keptOrUndone
        rw [if_neg (by decide), u1, bd_s]
      · exact ⟨c', kept_ok (n' := n') (by omega), T, n', Ty_W (m := 0) fx fw hT, hM', Oth_W (m := 0) fx fw hO⟩
    obtain ⟨c2, k1, k2⟩ := k
    refine ⟨v, c2, r', ?_, ?_, k2⟩
    · rw [e1, ob_s, if_neg n10, show xTerms_total c = some (nI n) from congrArg some hM.1, ob_s, q1, bd_s, k1, bd_s]
    · rw [e2, ob_s, if_neg n10, q2, bd_s]
  · exact ⟨-1, c, r, by rw [e1, ob_s, if_pos rfl], by rw [e2, ob_s, if_pos rfl], hI⟩
theorem Inv_ran {c r : jS} {T n : Nat} {v : Int32} (hT : Ty c r T) (hM : Tm c r T n) (hO : Oth c r T) : Inv (su c 0 9 v) (su r 30 31 v) := by
  refine ⟨T, n, ?_, ?_, ?_⟩
  · obtain ⟨h1, h2⟩ := hT
    exact ⟨h1, h2⟩
  · exact Tm_of (Nat.le_refl n) (fun p h1 h2 t ht => by rw [su_ne (by omega)]) (AgM_30 AgM.rf) (fun _ _ => rfl) hM.1 (by rw [su_row, upd_n (by omega)]; exact hM.2.1) hM
  · obtain ⟨h1, ⟨h2, h3, -⟩, h5, h6⟩ := hO
    exact ⟨h1, ⟨h2, h3, rfl⟩, h5, h6⟩
theorem run_L {c r : jS} {T n N : Nat} (hT : Ty c r T) (hM : Tm c r T n) (hO : Oth c r T) (hN : N ≤ 50) : ∀ (k i t n1 : Nat) (c1 r1 : jS), i + k = N → fX c c1 → fW 0 r r1 → AgX n c c1 → AgM n r r1 → n ≤ n1 → Tm c1 r1 T n1 → t < n1 →
    ∃ v c' r', xc_run_L40 (nI N) (nI n) (nI t) (nI i) (nI i) c1 = some (v, c') ∧ m_run_L34 (nI N) (nI n) (nI t) (nI t) (nI i) r1 = some (v, r') ∧ Inv c' r'
  | 0, i, t, n1, c1, r1, hi, fx, fw, ax, am, hn, hM1, ht => by
    have hiN : i = N := by omega
    subst hiN
    have h4 := hM1.2.2.1
    refine ⟨nI t, su c1 0 9 (nI i), su r1 30 31 (nI i), ?_, ?_, Inv_ran (Ty_W (m := 0) fx fw hT) hM1 (Oth_W (m := 0) fx fw hO)⟩
    · unfold xc_run_L40
      refine lp_inr ?_
      show xc_run_S40 (nI i) (nI n) (nI t) (nI i) (nI i) c1 = _
      unfold xc_run_S40
      rw [if_pos (nI_le (Nat.le_refl i) (by omega)), ltS]
    · unfold m_run_L34
      refine lp_inr ?_
      show m_run_S34 (nI i) (nI n) (nI t) (nI t) (nI i) r1 = _
      unfold m_run_S34 m_run_P68_34
      rw [if_pos (nI_le (Nat.le_refl i) (by omega)), if_neg (nne3 (by omega)), ltS]
  | k + 1, i, t, n1, c1, r1, hi, fx, fw, ax, am, hn, hM1, ht => by
    have h4 := hM1.2.2.1
    have hlt : ¬ nI N ≤ nI i := nI_ge (by omega) (by omega)
    have hT1 : Ty c1 r1 T := Ty_W (m := 0) fx fw hT
    have hO1 : Oth c1 r1 T := Oth_W (m := 0) fx fw hO
    obtain ⟨v, c2, r2, n2, q1, q2, fx2, fw2, ax2, am2, hn2, hn4, h5, h⟩ := STEPOF hT1 hM1 ht
    have FW := fw.tr (Nat.le_refl 0) fw2
    have FX := fx.tr fx2
    have X := ax.tr hn ax2
    have A := am.tr hn am2
    have fin : v < 0 → m_run_L34 (nI N) (nI n) (nI t) (nI t) (nI i) r1 = if v = -3 then some (-3, su r2 30 5 (nI n)) else some (nI t, su r2 30 31 (nI i)) := by
      intro hv
      have s1 : m_run_L34 (nI N) (nI n) (nI t) (nI t) (nI i) r1 = m_run_L34 (nI N) (nI n) (nI t) v (nI i) r2 := by
        unfold m_run_L34
        refine lp_inl ?_
        show m_run_S34 (nI N) (nI n) (nI t) (nI t) (nI i) r1 = _
        unfold m_run_S34
        rw [if_neg hlt, if_neg (nI_pos (by omega)), q2, bd_s, if_pos hv]
      rw [s1]
      unfold m_run_L34
      by_cases h3 : v = -3
      · rw [if_pos h3]
        refine lp_inr ?_
        show m_run_S34 (nI N) (nI n) (nI t) v (nI i) r2 = _
        unfold m_run_S34 m_run_P68_34
        rw [if_neg hlt, if_pos hv, if_pos h3, ltS]
      · rw [if_neg h3]
        refine lp_inr ?_
        show m_run_S34 (nI N) (nI n) (nI t) v (nI i) r2 = _
        unfold m_run_S34 m_run_P68_34
        rw [if_neg hlt, if_pos hv, if_neg h3, ltS]
    rcases h with ⟨rfl, h30⟩ | ⟨rfl, rfl, hM'⟩ | ⟨t', h1, rfl, hM'⟩
    · obtain ⟨c3, u1, u2, u3, u4⟩ := undone_ok h5 (show n ≤ n2 by omega) hn4
      refine ⟨-3, c3, su r2 30 5 (nI n), ?_, ?_, T, n, Ty_W (m := 0) (FX.tr u2) (fW_5 FW) hT, Tm_back hM X A FX (u3 n) u2 (AgM_30 AgM.rf) u4 (by rw [su_row, upd_s]), Oth_W (m := 0) (FX.tr u2) (fW_5 FW) hO⟩
      · unfold xc_run_L40
        refine lp_inr ?_
        show xc_run_S40 (nI N) (nI n) (nI t) (nI i) (nI i) c1 = _
        unfold xc_run_S40
        rw [if_neg hlt, q1, bd_s, if_pos rfl, u1, bd_s]
      · rw [fin (by decide), if_pos rfl]
    · refine ⟨nI t, su c2 0 9 (nI i), su r2 30 31 (nI i), ?_, ?_, Inv_ran (Ty_W (m := 0) fx FW hT) hM' (Oth_W (m := 0) fx FW hO)⟩
      · unfold xc_run_L40
        refine lp_inr ?_
        show xc_run_S40 (nI N) (nI n) (nI t) (nI i) (nI i) c2 = _
        unfold xc_run_S40
        rw [if_neg hlt, q1, bd_s, if_neg (by decide), if_neg (by decide), ltS]
      · rw [fin (by decide), if_neg (by decide)]
    · obtain ⟨v, c', r', w1, w2, w3⟩ := run_L hT hM hO hN k (i + 1) t' n2 c2 r2 (by omega) FX FW X A (by omega) hM' h1
      refine ⟨v, c', r', Eq.trans ?_ w1, Eq.trans ?_ w2, w3⟩
      · unfold xc_run_L40
        refine lp_inl ?_
        show xc_run_S40 (nI N) (nI n) (nI t) (nI i) (nI i) c1 = _
        unfold xc_run_S40
        rw [if_neg hlt, q1, bd_s, if_neg (nne3 (by omega)), if_pos (nI_pos' (by omega)), nI_1]
      · unfold m_run_L34
        refine lp_inl ?_
        show m_run_S34 (nI N) (nI n) (nI t) (nI t) (nI i) r1 = _
        unfold m_run_S34
        rw [if_neg hlt, if_neg (nI_pos (by omega)), q2, bd_s, if_neg (nI_pos (by omega)), nI_1]
theorem op_run : Op_run Inv := by
  intro c r a1 a2 hI
  obtain ⟨T, n, hT, hM, hO⟩ := id hI
  unfold xc_run m_run
  rcases term_cases hM.1 hM.2.1 hM.2.2.1 a1 with ⟨t, ht, rfl, e1, e2⟩ | ⟨e1, e2⟩
  · rw [e1, ob_s, if_neg n10, e2, ob_s, if_neg n10]
    by_cases h0 : a2 < 0
    · exact ⟨-1, c, r, by rw [if_pos h0], by rw [m_in_lo h0, ob_s, if_pos rfl], hI⟩
    · by_cases h50 : a2 ≤ 50
      · obtain ⟨N, hN, rfl⟩ := nI_of2 (n := 50) (by decide) h0 h50
        obtain ⟨v, c', r', w1, w2, w3⟩ := run_L hT hM hO hN N 0 t n c r (by omega) fX.rf fW.rf AgX.rf AgM.rf (Nat.le_refl n) hM ht
        refine ⟨v, c', r', ?_, ?_, w3⟩
        · rw [if_neg h0, if_pos h50, show xTerms_total c = some (nI n) from congrArg some hM.1, ob_s]
          exact w1
        · rw [show m_in r (nI N) 0 50 = some 1 from m_in_t (a := 0) (b := 50) (by omega) hN (by decide), ob_s, if_neg n10, hM.2.1]
          exact w2
      · have h5 : (50 : Int32) < a2 := by
          rw [Int32.lt_iff_toInt_lt]
          rw [Int32.le_iff_toInt_le] at h50
          omega
        exact ⟨-1, c, r, by rw [if_neg h0, if_neg h50], by rw [m_in_hi h0 h5, ob_s, if_pos rfl], hI⟩
  · exact ⟨-1, c, r, by rw [e1, ob_s, if_pos rfl], by rw [e2, ob_s, if_pos rfl], hI⟩
