set_option maxHeartbeats 1000000 in
theorem rt_sim {M top : Nat} : ∀ (d f l m : Nat) (c r : jS) (T P : Nat), l + d = 41 → top + 1 + m = l → 2 * d + 1 ≤ f → Ty c r T → Tk M c r P → r 30 14 = nI top →
    ∃ v c' r', xReader_typeHere f c (nI l) = some (v, c') ∧ TS M T m c r v c' r'
  | 0, f, l, m, c, r, T, P, hl, hm, hf, hT, hK, h14 => by
    obtain ⟨f, rfl⟩ : ∃ f', f = f' + 1 := ⟨f - 1, by omega⟩
    have hl' : l = 41 := by omega
    subst hl'
    have hB := bt_lo (c := c) (P := P) (M := M)
    rw [xReader_typeHere_s]
    unfold b_xReader_typeHere
    rw [x_byte hK, ob_s, bty hB, ob_s]
    have e40 : r 30 14 + nI m = (40 : Int32) := by rw [h14, nI_add, show top + m = 40 by omega]; rfl
    have t : ∀ z, m_readType_S7 (nI m) z 1 r = (if bm (bt c P M) = 105 then some (Sum.inl (nI m, z, 1, su r 30 42 2)) else if bm (bt c P M) = 40 then some (Sum.inl (nI m, z, 1, su r 30 42 2)) else some (Sum.inl (nI m, z, 1, su r 30 42 1))) := fun z => by
      unfold m_readType_S7 m_readType_P22_7
      rw [if_pos hK.2.2.2.2.2, if_neg n10, if_neg n10, if_pos e40, m_byte hK, ob_s, ob_s]
      rfl
    by_cases hb : bt c P M = some 105 ∨ bt c P M = some 40
    · refine ⟨-3, c, su r 30 42 2, ?_, T, Nat.le_refl T, Ty_3 (by omega) hT, fTX.rf, fTM_30 fTM.rf (by omega), Or.inr ⟨Or.inl ⟨rfl, by rw [su_row, upd_s]⟩, fun z => ⟨z, ?_⟩⟩⟩
      · rw [if_pos hb, if_neg n10, if_neg (by decide)]
      · rw [L7_s (a' := nI m) (z' := z) (w' := 1) (r' := su r 30 42 2) ?_]
        · exact rt_end (by rw [su_row, upd_s]; decide)
        · rw [t z]
          rcases hb with hb | hb
          · rw [if_pos (show bm (bt c P M) = 105 by rw [hb]; rfl)]
          · rw [if_neg (show ¬ bm (bt c P M) = 105 by rw [hb]; decide), if_pos (show bm (bt c P M) = 40 by rw [hb]; rfl)]
    · refine ⟨-10 - nI P, c, su r 30 42 1, ?_, T, Nat.le_refl T, Ty_3 (by omega) hT, fTX.rf, fTM_30 fTM.rf (by omega), Or.inr ⟨Fl_tk hK (by rw [su_row, upd_n (by omega)]) (by rw [su_row, upd_s]), fun z => ⟨z, ?_⟩⟩⟩
      · unfold xReader_wrongHere
        rw [if_neg hb, if_pos rfl, ob_s, hK.2.2.1]
      · rw [L7_s (a' := nI m) (z' := z) (w' := 1) (r' := su r 30 42 1) ?_]
        · exact rt_end (by rw [su_row, upd_s]; decide)
        · rw [t z, if_neg (show ¬ bm (bt c P M) = 105 from fun e => hb (Or.inl ((bm_eq (k := 105) hB (by omega)).mp e))), if_neg (show ¬ bm (bt c P M) = 40 from fun e => hb (Or.inr ((bm_eq (k := 40) hB (by omega)).mp e)))]
  | d + 1, f, l, m, c, r, T, P, hl, hm, hf, hT, hK, h14 => by
    obtain ⟨g, rfl⟩ : ∃ f', f = f' + 1 + 1 := ⟨f - 2, by omega⟩
    have hB := bt_lo (c := c) (P := P) (M := M)
    have l40 : nI l ≤ (40 : Int32) := nI_le (b := 40) (by omega) (by decide)
    rw [xReader_typeHere_s]
    unfold b_xReader_typeHere
    rw [x_byte hK, ob_s, bty hB, ob_s]
    have e40 : ¬ r 30 14 + nI m = (40 : Int32) := by rw [h14, nI_add]; exact fun e => absurd ((nI_eq (b := 40) (by omega) (by decide)).mp e) (by omega)
    have hm44 : m < 44 := by omega
    by_cases h40 : bt c P M = some 40
    · -- an arrow
      have hP := bt_s h40
      have i1 : ix (nI m) 44 = true := ix_nI hm44 (by decide)
      have K1 := Tk_next hK hP
      have t1 : ∀ z, m_readType_L7 (nI m) z 1 r = m_readType_L7 (nI (m + 1)) z 1 (su (su r 30 41 (nI (P + 1))) 58 m 0) := fun z => by
        refine L7_s ?_
        unfold m_readType_S7 m_readType_P22_7 m_readType_P67_7
        rw [if_pos hK.2.2.2.2.2, if_neg n10, if_neg n10, if_neg e40, if_neg n10, m_byte hK, ob_s, h40, if_pos (show bm (some 40) = 40 from rfl), ltS, gd_t i1, ltS, hK.2.2.2.1, nI_1, nI_1, nI_clamp (show m < 2 ^ 31 by omega)]
      have K1' : Tk M (su c 28 4 (nI (P + 1))) (su (su r 30 41 (nI (P + 1))) 58 m 0) (P + 1) := Tk_f K1 rfl rfl (su_ne (by omega)) rfl rfl rfl
      obtain ⟨v1, c2, r2, x1, T1, hT1, hY1, fx1, fm1, h1⟩ := rt_sim (M := M) (top := top) d g (l + 1) (m + 1) (su c 28 4 (nI (P + 1))) (su (su r 30 41 (nI (P + 1))) 58 m 0) T (P + 1) (by omega) (by omega) (by omega) (Ty_x28 (Ty_m (by omega) (Ty_3 (by omega) hT))) K1' h14
      have Fx1 : fTX T c c2 := (fTX_su fTX.rf).tr (Nat.le_refl T) fx1
      have Fm1 : fTM T m r r2 := (fTM_su (fTM_30 fTM.rf (by omega)) (by omega) (Nat.le_refl m)).tr (Nat.le_refl T) (by omega) fm1
      have X1 : xReader_typeBehind (g + 1) c (nI 40) (nI l + 1) = some (v1, c2) := by rw [tbh_t hK (by omega) h40, nI_1]; exact x1
      rw [if_pos (Or.inr h40), if_neg n10, if_pos l40, if_neg (show ¬ bx (bt c P M) = 105 by rw [h40]; decide), show (40 : Int32) = nI 40 from rfl, X1, bd_s]
      rcases h1 with ⟨y1, P1, hy1, rfl, K2, e1⟩ | ⟨hF, e1⟩
      · rw [if_pos (nI_pos' (by have := hY1.2.2.2.1; omega))]
        have h58 : r2 58 m = 0 := by rw [(fm1.2.2.2 m (by omega)).2, su_row, upd_s]
        have h14' : r2 30 14 = nI top := by rw [fm1.2.1 14 (by omega) (by omega) (by omega)]; exact h14
        have T40 := hY1.2.2.2.1
        by_cases h62 : bt c2 P1 M = some 62
        · have hP1 := bt_s h62
          have K3 := Tk_next K2 hP1
          have t2 := rt_gt (y := nI y1) K2.2.2.2.2.2 hm44 h58 (must_t (k := 62) K2 (by omega) h62)
          have K3' : Tk M (su c2 28 4 (nI (P1 + 1))) (su (su (su r2 30 41 (nI (P1 + 1))) 57 m (nI y1)) 58 m 1) (P1 + 1) := Tk_f K3 rfl rfl (by rw [su_ne (by omega), su_ne (by omega)]) rfl rfl rfl
          obtain ⟨v2, c4, r4, x2, T2, hT2, hY2, fx2, fm2, h2⟩ := rt_sim (M := M) (top := top) d g (l + 1) (m + 1) (su c2 28 4 (nI (P1 + 1))) (su (su (su r2 30 41 (nI (P1 + 1))) 57 m (nI y1)) 58 m 1) T1 (P1 + 1) (by omega) (by omega) (by omega) (Ty_x28 (Ty_m (by omega) (Ty_m (by omega) (Ty_3 (by omega) hY1)))) K3' h14'
          have Fx2 : fTX T c c4 := Fx1.tr hT1 ((fTX_su fTX.rf).tr (Nat.le_refl _) fx2)
          have Fm2 : fTM T m r r4 := Fm1.tr hT1 (Nat.le_refl m) ((fTM_su (fTM_su (fTM_30 fTM.rf (by omega)) (by omega) (Nat.le_refl m)) (by omega) (Nat.le_refl m)).tr (Nat.le_refl _) (by omega) fm2)
          have X2 : xReader_typeBehind (g + 1) c2 (nI 62) (nI l + 1) = some (v2, c4) := by rw [tbh_t K2 (by omega) h62, nI_1]; exact x2
          rw [show (62 : Int32) = nI 62 from rfl, X2, bd_s]
          rcases h2 with ⟨y2, P2, hy2, rfl, K4, e2⟩ | ⟨hF, e2⟩
          · have T240 := hY2.2.2.2.1
            rw [if_pos (nI_pos' (by omega)), show (41 : Int32) = nI 41 from rfl]
            have h57 : r4 57 m = nI y1 := by rw [(fm2.2.2.2 m (by omega)).1, su_ne (by omega), su_row, upd_s]
            have h58' : r4 58 m = 1 := by rw [(fm2.2.2.2 m (by omega)).2, su_row, upd_s]
            have run : ∀ z, m_readType_L7 (nI m) z 1 r = m_readType_L7 (nI (m + 1)) (nI y2) 0 r4 := fun z => by
              rw [t1 z, e1 z, t2, e2 (nI y1)]
            by_cases h41 : bt c4 P2 M = some 41
            · have hP2 := bt_s h41
              have K5 := Tk_next K4 hP2
              have hY5 : Ty (su c4 28 4 (nI (P2 + 1))) (su r4 30 41 (nI (P2 + 1))) T2 := Ty_x28 (Ty_3 (by omega) hY2)
              obtain ⟨v, c6, r6, a1, a2, T3, hT3, hY3, ax, am, hv⟩ := ARW (a := y1) (b := y2) hY5 (by omega) hy2
              have Fx3 : fTX T c c6 := Fx2.tr (by omega) ((fTX_su fTX.rf).tr (Nat.le_refl T2) (fTX_T ax))
              have Fm3 : fTM T m r r6 := Fm2.tr (by omega) (Nat.le_refl m) ((fTM_30 fTM.rf (by omega)).tr (Nat.le_refl T2) (Nat.le_refl m) (fTM_T am))
              have c42 : r6 30 42 = 0 := by rw [am.2.1 42 (by omega)]; exact K5.2.2.2.2.2
              have t3 : m_readType_S7 (nI (m + 1)) (nI y2) 0 r4 = m_readType_P191_7 (nI m) 0 v r6 := by
                rw [rt_close K4.2.2.2.2.2 hm44 h58' (must_t (k := 41) K4 (by omega) h41), if_pos K5.2.2.2.2.2, su_ne (show 57 ≠ 30 by omega), h57, a2, bd_s]
              rw [pass_t K4 (by omega) h41, bd_s, if_pos (by decide), a1, bd_s]
              rcases hv with ⟨rfl, rfl⟩ | ⟨y, hy1', hy, rfl⟩
              · refine ⟨-3, c6, su r6 30 42 2, rfl, T3, by omega, Ty_3 (by omega) hY3, Fx3, fTM_30 Fm3 (by omega), Or.inr ⟨Or.inl ⟨rfl, by rw [su_row, upd_s]⟩, fun z => ⟨-3, ?_⟩⟩⟩
                rw [run z, L7_s (a' := nI m) (z' := -3) (w' := 0) (r' := su r6 30 42 2) (by rw [t3]; unfold m_readType_P191_7; rw [if_pos rfl, ltS])]
                exact rt_end (by rw [su_row, upd_s]; decide)
              · have T340 := hY3.2.2.2.1
                refine ⟨nI y, c6, su r6 30 42 (r6 30 42), rfl, T3, by omega, Ty_3 (by omega) hY3, Fx3, fTM_30 Fm3 (by omega), Or.inl ⟨y, P2 + 1, hy, rfl, ?_, fun z => ?_⟩⟩
                · refine Tk_f K5 (ax.1 28 (by omega)) (ax.1 29 (by omega)) (by rw [su_ne (by omega), am.1 59 (by omega)]) ?_ ?_ ?_
                  · rw [su_row, upd_n (by omega), am.2.1 40 (by omega)]
                  · rw [su_row, upd_n (by omega), am.2.1 41 (by omega)]
                  · rw [su_row, upd_s, am.2.1 42 (by omega)]
                · rw [run z]
                  refine L7_s ?_
                  rw [t3]
                  unfold m_readType_P191_7
                  rw [if_neg (nI_ne (by omega) (by decide)), ltS]
            · have t3 : m_readType_S7 (nI (m + 1)) (nI y2) 0 r4 = some (Sum.inl (nI m, 0, 0, su (su r4 30 42 1) 30 42 1)) := by
                rw [rt_close K4.2.2.2.2.2 hm44 h58' (must_f (k := 41) K4 (by omega) h41), if_neg (by rw [su_row, upd_s]; decide)]
                unfold m_readType_P191_7
                rw [if_neg (by decide), ltS, su_row, upd_s]
              refine ⟨-10 - nI P2, c4, su (su r4 30 42 1) 30 42 1, ?_, T2, by omega, Ty_3 (by omega) (Ty_3 (by omega) hY2), Fx2, fTM_30 (fTM_30 Fm2 (by omega)) (by omega), Or.inr ⟨Fl_tk K4 (by rw [su_row, upd_n (by omega), su_row, upd_n (by omega)]) (by rw [su_row, upd_s]), fun z => ⟨0, ?_⟩⟩⟩
              · rw [pass_f K4 (by omega) h41, bd_s, if_neg (wr_neg P2 (by have := K4.2.1; have := K4.2.2.2.2.1; omega))]
              · rw [run z, L7_s t3]
                exact rt_end (by rw [su_row, upd_s]; decide)
          · refine ⟨v2, c4, r4, by rw [if_neg (Fl_neg hF)], T2, by omega, hY2, Fx2, Fm2, Or.inr ⟨hF, fun z => ?_⟩⟩
            obtain ⟨w, hw⟩ := e2 (nI y1)
            exact ⟨w, by rw [t1 z, e1 z, t2, hw]⟩
        · have t2 := rt_gt (y := nI y1) K2.2.2.2.2.2 hm44 h58 (must_f (k := 62) K2 (by omega) h62)
          refine ⟨-10 - nI P1, c2, su (su (su r2 30 42 1) 57 m (nI y1)) 58 m 1, ?_, T1, hT1, Ty_m (by omega) (Ty_m (by omega) (Ty_3 (by omega) hY1)), Fx1, fTM_su (fTM_su (fTM_30 Fm1 (by omega)) (by omega) (Nat.le_refl m)) (by omega) (Nat.le_refl m), Or.inr ⟨Fl_tk K2 rfl rfl, fun z => ⟨nI y1, ?_⟩⟩⟩
          · rw [show (62 : Int32) = nI 62 from rfl, tbh_f K2 (by omega) h62, bd_s, if_neg (wr_neg P1 (by have := K2.2.1; have := K2.2.2.2.2.1; omega))]
          · rw [t1 z, e1 z, t2]
            exact rt_end (by rw [show (su (su (su r2 30 42 1) 57 m (nI y1)) 58 m 1) 30 42 = 1 from rfl]; decide)
      · refine ⟨v1, c2, r2, by rw [if_neg (Fl_neg hF)], T1, hT1, hY1, Fx1, Fm1, Or.inr ⟨hF, fun z => ?_⟩⟩
        obtain ⟨w, hw⟩ := e1 z
        exact ⟨w, by rw [t1 z, hw]⟩
    · have t1 : ∀ z r1, m_must r (nI 105) = some ((), r1) → m_readType_S7 (nI m) z 1 r = some (Sum.inl (nI m, 0, 0, r1)) := fun z r1 h => by
        unfold m_readType_S7 m_readType_P22_7 m_readType_P67_7 m_readType_P103_7
        rw [if_pos hK.2.2.2.2.2, if_neg n10, if_neg n10, if_neg e40, if_neg n10, m_byte hK, ob_s, if_neg (show ¬ bm (bt c P M) = 40 from fun e => h40 ((bm_eq (k := 40) hB (by omega)).mp e)), if_neg n10, show (105 : Int32) = nI 105 from rfl, h, bd_s]
      by_cases h105 : bt c P M = some 105
      · have hP := bt_s h105
        refine ⟨0, su c 28 4 (nI (P + 1)), su r 30 41 (nI (P + 1)), ?_, T, Nat.le_refl T, Ty_x28 (Ty_3 (by omega) hT), fTX_su fTX.rf, fTM_30 fTM.rf (by omega), Or.inl ⟨0, P + 1, by have := hT.2.2.1; omega, rfl, Tk_next hK hP, fun z => ?_⟩⟩
        · rw [if_pos (Or.inl h105), if_neg n10, if_pos l40, if_pos (show bx (bt c P M) = 105 by rw [h105]; rfl), hK.2.2.1, nI_1, ltS]
        · exact L7_s (t1 z _ (must_t hK (by omega) h105))
      · refine ⟨-10 - nI P, c, su r 30 42 1, ?_, T, Nat.le_refl T, Ty_3 (by omega) hT, fTX.rf, fTM_30 fTM.rf (by omega), Or.inr ⟨Fl_tk hK (by rw [su_row, upd_n (by omega)]) (by rw [su_row, upd_s]), fun z => ⟨0, ?_⟩⟩⟩
        · unfold xReader_wrongHere
          rw [if_neg (show ¬ (bt c P M = some 105 ∨ bt c P M = some 40) from fun e => e.elim h105 h40), if_pos rfl, ob_s, hK.2.2.1]
        · rw [L7_s (t1 z _ (must_f hK (by omega) h105))]
          exact rt_end (by rw [su_row, upd_s]; decide)
