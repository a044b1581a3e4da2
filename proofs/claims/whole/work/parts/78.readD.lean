theorem Oth_rd {T T' n : Nat} {c c' c9 r r' r9 : jS} (hT : T ≤ T') (fx : fRX T n c c') (fm : fRM T n 0 r r') (hO : Oth c r T) (hc : ∀ q, q ≠ 1 → q ≠ 5 → q ≠ 28 → c9 q = c' q) (hr : ∀ q, q ≠ 30 → r9 q = r' q) (hr0 : ∀ k, k ≠ 0 → k ≠ 5 → k ≠ 40 → k ≠ 42 → r9 30 k = r' 30 k) (h1 : c9 28 3 = 0) (h2 : r9 30 40 = 0) : Oth c9 r9 T' := by
  have C : ∀ q, q = 0 ∨ 16 < q → q ≠ 28 → c9 q = c q := fun q h g => (hc q (by omega) (by omega) g).trans (fx.1 q h g)
  have R : ∀ q, q = 34 ∨ (49 < q ∧ q < 57) → r9 q = r q := fun q h => (hr q (by omega)).trans (fm.1 q (by omega))
  have R0 : ∀ k, k ≠ 0 → k ≠ 5 → k ≠ 14 → k ≠ 22 → k ≠ 40 → k ≠ 41 → k ≠ 42 → r9 30 k = r 30 k := fun k a1 a2 a3 a4 a5 a6 a7 => (hr0 k a1 a2 a5 a7).trans (fm.2.1 k a1 a2 a3 a4 a6 a7)
  obtain ⟨o1, o2, o3, -⟩ := Oth_mono hT hO
  refine ⟨?_, ?_, ?_, 0, by omega, h1, h2, fun i hi => absurd hi (Nat.not_lt_zero i)⟩
  · rw [C 18 (by omega) (by omega), R 34 (by omega)]; exact o1
  · rw [C 17 (by omega) (by omega), C 0 (by omega) (by omega), R0 24 (by omega) (by omega) (by omega) (by omega) (by omega) (by omega) (by omega), R0 25 (by omega) (by omega) (by omega) (by omega) (by omega) (by omega) (by omega), R0 31 (by omega) (by omega) (by omega) (by omega) (by omega) (by omega) (by omega)]; exact o2
  · rw [C 26 (by omega) (by omega), C 27 (by omega) (by omega), R 55 (by omega), R0 33 (by omega) (by omega) (by omega) (by omega) (by omega) (by omega) (by omega)]; exact o3
theorem cut_t {c : jS} {n n' : Nat} (h : c 5 12 = nI n') (hn : n ≤ n') (h4 : n' ≤ 400) : ∃ c', xTerms_cutTo c (nI n) = some ((), c') ∧ (∀ q, q ≠ 5 → c' q = c q) ∧ c' 5 12 = nI n := by
  unfold xTerms_cutTo
  rw [if_neg (nI_pos (by omega)), h]
  by_cases e : n' ≤ n
  · exact ⟨c, by rw [if_pos (nI_le e (by omega))], fun _ _ => rfl, by rw [h, show n' = n by omega]⟩
  · exact ⟨su c 5 12 (nI n), by rw [if_neg (nI_ge (by omega) (by omega)), ltS], fun q hq => su_ne hq, by rw [su_row, upd_s]⟩
theorem cut_y {c : jS} {n n' : Nat} (h : c 1 3 = nI n') (h1 : 1 ≤ n) (hn : n ≤ n') (h4 : n' ≤ 400) : ∃ c', xTypes_cutTo c (nI n) = some ((), c') ∧ (∀ q, q ≠ 1 → c' q = c q) ∧ c' 1 3 = nI n := by
  unfold xTypes_cutTo
  rw [if_neg (show ¬ nI n < (1 : Int32) from nI_nlt (b := 1) h1 (by omega)), h]
  by_cases e : n' ≤ n
  · exact ⟨c, by rw [if_pos (nI_le e (by omega))], fun _ _ => rfl, by rw [h, show n' = n by omega]⟩
  · exact ⟨su c 1 3 (nI n), by rw [if_neg (nI_ge (by omega) (by omega)), ltS], fun q hq => su_ne hq, by rw [su_row, upd_s]⟩
/-- a reading that went wrong leaves what was -/
theorem rd_cut {T T' n n' : Nat} {c c' r r' : jS} {v : Int32} (hT : Ty c r T) (hM : Tm c r T n) (hO : Oth c r T) (hTT : T ≤ T') (hnn : n ≤ n') (Y : Ty c' r' T') (M' : Tm c' r' T' n') (fx : fRX T n c c') (fm : fRM T n 0 r r') (hv : ¬ (0 : Int32) ≤ v) (r9 : jS) (hr : r9 = su (su (su r' 30 40 0) 30 5 (nI n)) 30 0 (nI T)) :
    ∃ c9, xReader_wholeTape_P47 (nI n) (nI T) v c' = some (v, c9) ∧ Inv c9 r9 := by
  subst hr
  obtain ⟨c7, e7, f7, g7⟩ := cut_t M'.1 hnn M'.2.2.1
  obtain ⟨c8, e8, f8, g8⟩ := cut_y (c := c7) (by rw [f7 1 (by omega)]; exact Y.1) hT.2.2.1 hTT (by have := Y.2.2.2.1; omega)
  have C : ∀ q, q ≠ 1 → q ≠ 5 → q ≠ 28 → (su c8 28 3 0) q = c' q := fun q a1 a2 a3 => by rw [su_ne a3, f8 q a1, f7 q a2]
  refine ⟨su c8 28 3 0, ?_, T, n, ?_, ?_, ?_⟩
  · unfold xReader_wholeTape_P47
    rw [if_neg hv, e7, bd_s, e8, bd_s, ltS]
  · refine Ty_cut (fun i hi => ?_) (fun i hi => ?_) (by rw [su_ne (by omega)]; exact g8) (by rw [su_row, upd_s]) hT
    · rw [C 2 (by omega) (by omega) (by omega), C 3 (by omega) (by omega) (by omega), C 4 (by omega) (by omega) (by omega)]; exact fx.2.1 i hi
    · rw [su_ne (by omega), su_ne (by omega), su_ne (by omega), su_ne (by omega), su_ne (by omega), su_ne (by omega), su_ne (by omega), su_ne (by omega), su_ne (by omega)]; exact fm.2.2.1 i hi
  · refine Tm_of (Nat.le_refl n) (fun q h1 h2 t ht => ?_) (AgM_30 (AgM_30 (AgM_30 fm.2.2.2.1))) (fun i hi => ?_) ?_ ?_ hM
    · rw [C q (by omega) (by omega) (by omega)]; exact fx.2.2.1 q h1 h2 t ht
    · rw [C 4 (by omega) (by omega) (by omega)]; exact (fx.2.1 i hi).2.2
    · rw [su_ne (by omega), f8 5 (by omega)]; exact g7
    · rw [su_row, upd_n (by omega), su_row, upd_s]
  · refine Oth_rd (Nat.le_refl T) fx fm hO C (fun q hq => by rw [su_ne hq, su_ne hq, su_ne hq]) (fun k a1 a2 a3 a4 => by rw [su_row, upd_n a1, su_row, upd_n a2, su_row, upd_n a3]) (by rw [su_row, upd_s]) (by rw [su_row, upd_n (by omega), su_row, upd_n (by omega), su_row, upd_s])
theorem nlt_of {v : Int32} (h : ¬ (0 : Int32) ≤ v) : v < 0 := by
  rw [Int32.le_iff_toInt_le] at h
  rw [Int32.lt_iff_toInt_lt]
  omega
set_option maxHeartbeats 1000000 in
theorem op_read : Op_read Inv := by
  intro c r hI
  obtain ⟨T, n, hT, hM, hO⟩ := id hI
  obtain ⟨M, hM6, t1, t2, t3⟩ := hO.2.2.2
  have h4 := hM.2.2.1
  unfold xc_read xReader_wholeTape m_read xTerms_total xTypes_total
  rw [bd_etaI, ob_s, ob_s, ltS, ltS, ltS, ltS, ltS, hM.1, hT.1, hM.2.1, hT.2.1]
  have fx0 : fRX T n c (su c 28 4 0) := fRX_su fRX.rf
  have fm0 : fRM T n 0 r (su (su (su (su r 30 41 0) 30 42 0) 30 14 0) 30 22 (-2)) := fRM_30 (fRM_30 (fRM_30 (fRM_30 fRM.rf (by omega)) (by omega)) (by omega)) (by omega)
  have Y0 : Ty (su c 28 4 0) (su (su (su (su r 30 41 0) 30 42 0) 30 14 0) 30 22 (-2)) T := Ty_x28 (Ty_3 (by omega) (Ty_3 (by omega) (Ty_3 (by omega) (Ty_3 (by omega) hT))))
  have M0 : Tm (su c 28 4 0) (su (su (su (su r 30 41 0) 30 42 0) 30 14 0) 30 22 (-2)) T n := Tm_of (Nat.le_refl n) fx0.2.2.1 fm0.2.2.2.1 (fun i hi => (fx0.2.1 i hi).2.2) (by rw [su_ne (by omega)]; exact hM.1) hM.2.1 hM
  have K0 : Tk M (su c 28 4 0) (su (su (su (su r 30 41 0) 30 42 0) 30 14 0) 30 22 (-2)) 0 := ⟨⟨t1, t2, t3⟩, hM6, by rw [su_row, upd_s]; rfl, rfl, by omega, rfl⟩
  obtain ⟨v, c', r', e1, e2, T', n', hTT, hnn, Y, M', fx, fm, o⟩ := rd_sim (M := M) (a := nI n) (b := nI T) 40 130 1 0 (su c 28 4 0) (su (su (su (su r 30 41 0) 30 42 0) 30 14 0) 30 22 (-2)) T n 0 (by omega) (by omega) (by omega) Y0 M0 K0 rfl rfl
  rw [e2, show (1 : Int32) = nI 1 from rfl, e1, bd_s]
  have Fx := fx0.tr (Nat.le_refl T) (Nat.le_refl n) fx
  have Fm := fm0.tr (Nat.le_refl T) (Nat.le_refl n) (Nat.le_refl 0) fm
  rcases o with ⟨P, t, ht, rfl, K, h14, h22⟩ | hF
  · have t4 := M'.2.2.1
    have run : ∀ {x : Option (Int32 × jS)}, m_read_P108_31 (nI n) (nI T) r' = om x → m_read_L31 (nI n) (nI T) r' = x := fun {x} h => by
      unfold m_read_L31
      refine lp_om ?_
      show m_read_S31 (nI n) (nI T) r' = _
      unfold m_read_S31
      rw [if_pos K.2.2.2.2.2, h14, if_neg (by decide), h22, if_neg (nI_ne (by omega) (by decide)), h]
    rw [if_neg (nI_pos (by omega)), K.1.1, K.2.2.1]
    have P6 := K.2.2.2.2.1
    by_cases hMP : M ≤ P
    · refine ⟨nI t, su c' 28 3 0, su r' 30 40 0, ?_, run (x := some (nI t, su r' 30 40 0)) ?_, T', n', ?_, ?_, ?_⟩
      · unfold xReader_wholeTape_P47
        rw [if_pos (nI_le hMP (by omega)), if_pos (nI_pos' (by omega)), ltS]
      · unfold m_read_P108_31 m_read_P131_31
        rw [if_pos K.2.2.2.2.2, K.1.2.1, K.2.2.2.1, if_pos (nI_le hMP (by omega)), ltS, show (su r' 30 40 0) 30 42 = 0 from K.2.2.2.2.2, if_pos (by decide), show (su r' 30 40 0) 30 22 = nI t from h22, om_s]
      · exact Ty_3 (by omega) (Ty_r (fun q h1 h2 => by rw [su_ne (by omega)]) rfl (fun _ _ _ => rfl) Y)
      · exact Tm_of (Nat.le_refl n') (fun q h1 h2 t ht => by rw [su_ne (by omega)]) (AgM_30 AgM.rf) (fun i _ => by rw [su_ne (by omega)]) (by rw [su_ne (by omega)]; exact M'.1) (by rw [su_row, upd_n (by omega)]; exact M'.2.1) M'
      · exact Oth_rd hTT Fx Fm hO (fun q _ _ h => su_ne h) (fun q h => su_ne h) (fun k _ _ h _ => by rw [su_row, upd_n h]) (by rw [su_row, upd_s]) (by rw [su_row, upd_s])
    · have hMP' : ¬ nI M ≤ nI P := nI_ge (by omega) (by omega)
      have hv := wr_neg P (by omega)
      obtain ⟨c9, q1, q2⟩ := rd_cut hT hM hO hTT hnn (Ty_3 (k := 42) (v := 1) (by omega) Y) (Tm_r (AgM_30 AgM.rf) rfl M' : Tm c' (su r' 30 42 1) T' n') Fx (fRM_30 (k := 42) (v := 1) Fm (by omega)) hv _ rfl
      refine ⟨-10 - nI P, c9, _, ?_, run (x := some (-10 - nI P, su (su (su (su r' 30 42 1) 30 40 0) 30 5 (nI n)) 30 0 (nI T))) ?_, q2⟩
      · unfold xReader_wrongHere
        rw [if_neg hMP', K.2.2.1, ob_s, q1]
      · unfold m_read_P108_31 m_read_P131_31
        rw [if_pos K.2.2.2.2.2, K.1.2.1, K.2.2.2.1, if_neg hMP', ltS, ltS, show (su (su r' 30 42 1) 30 40 0) 30 42 = 1 from rfl, if_neg (by decide), ltS, ltS, show (su (su (su (su r' 30 42 1) 30 40 0) 30 5 (nI n)) 30 0 (nI T)) 30 42 = 1 from rfl, if_neg (by decide), show (su (su (su (su r' 30 42 1) 30 40 0) 30 5 (nI n)) 30 0 (nI T)) 30 41 = nI P from K.2.2.2.1, om_s]
  · have hv := Fl_neg hF
    have n42 := Fl_42 hF
    obtain ⟨c9, q1, q2⟩ := rd_cut hT hM hO hTT hnn Y M' Fx Fm hv _ rfl
    refine ⟨v, c9, _, by rw [if_pos (nlt_of hv), q1], ?_, q2⟩
    unfold m_read_L31
    refine lp_inr ?_
    show m_read_S31 (nI n) (nI T) r' = _
    unfold m_read_S31 m_read_P108_31 m_read_P131_31
    have g42 : (su r' 30 40 0) 30 42 = r' 30 42 := rfl
    have g42' : (su (su (su r' 30 40 0) 30 5 (nI n)) 30 0 (nI T)) 30 42 = r' 30 42 := rfl
    have g41' : (su (su (su r' 30 40 0) 30 5 (nI n)) 30 0 (nI T)) 30 41 = r' 30 41 := rfl
    rw [if_neg n42, if_neg n42, ltS, g42]
    rcases hF with ⟨rfl, hF⟩ | ⟨P, hP, rfl, hF, h41⟩
    · rw [if_neg (by rw [hF]; decide), ltS, ltS, g42', if_pos hF]
    · rw [if_neg (by rw [hF]; decide), ltS, ltS, g42', if_neg (by rw [hF]; decide), g41', h41]
