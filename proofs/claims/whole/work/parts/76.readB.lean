theorem Tm_T {c c' r r' : jS} {T T' n m : Nat} (hT : T ≤ T') (fx : fTX T c c') (fm : fTM T m r r') (hM : Tm c r T n) : Tm c' r' T' n :=
  Tm_mono hT (Tm_of (Nat.le_refl n) (fRX_T (n := n) fx).2.2.1 (fRM_T (n := n) (p := 0) fm).2.2.2.1 (fun i hi => (fx.2.1 i hi).2.2) (by rw [fx.1 5 (by omega) (by omega)]; exact hM.1) (by rw [fm.2.1 5 (by omega) (by omega) (by omega)]; exact hM.2.1) hM)
theorem rt_done {M P : Nat} {y : Int32} {c r : jS} (hK : Tk M c r P) : m_readType_L7 (nI 0) y 0 r = some (y, r) := by
  unfold m_readType_L7
  refine lp_inr ?_
  show m_readType_S7 (nI 0) y 0 r = _
  unfold m_readType_S7
  rw [if_pos hK.2.2.2.2.2, if_pos rfl, if_pos (by decide)]
set_option maxHeartbeats 2000000 in
theorem rd_fun {M d g l p P T n : Nat} {a b : Int32} {c r : jS} (ih : RD M a b d) (hl : l + 1 + d = 41) (hp : l = p + 1) (hg : 3 * d + 1 ≤ g) (hT : Ty c r T) (hM : Tm c r T n) (hK : Tk M c r P) (h14 : r 30 14 = nI p) (h22 : r 30 22 = -2) (hb : bt c P M = some 92) :
    ∃ v c' r', xReader_functionHere (g + 1 + 1) c (nI l) = some (v, c') ∧ m_read_L31 a b r = m_read_L31 a b r' ∧ RS M T n p c r v c' r' := by
  have hP := bt_s hb
  obtain ⟨Y0, M0, K0, E0, z0, fm0⟩ := bg0_ok (p := p) (K := 2) hT hM hK hP
  have fx0 : fRX T n c (su c 28 4 (nI (P + 1))) := fRX_su fRX.rf
  have s0 : ∀ {R : jS}, bd (m_mustLetter (bg0 r p P 2)) (fun r12 c13 => bd (m_must (su c13 48 p r12) (nI 58)) (fun _ c15 => if c15 30 42 = 0 then bd (m_readType c15) (fun r18 c19 => bd (m_must (su c19 49 p r18) (nI 46)) (fun _ c21 => some ((), c21))) else bd (m_must (su c15 49 p (-2)) (nI 46)) (fun _ c17 => some ((), c17)))) = some ((), R) → m_read_L31 a b r = m_read_L31 a b R := fun {R} h => rb_step hK.2.2.2.2.2 h22 h14 (by omega) (by rw [rb_92 (by rw [m_byte hK, hb]; rfl), bg_2 hK h14 (by omega), h])
  rw [xReader_functionHere_s]
  unfold b_xReader_functionHere
  simp only [xTerms_newFunction, bd_etaI]
  rcases lb (k := 92) hK (by omega) hb K0 with ⟨x, hx, hP1, q1, q2⟩ | ⟨q1, q2⟩
  · rw [show (92 : Int32) = nI 92 from rfl, q1, bd_s, if_pos (cj (n := 26) hx (by omega))]
    have kx : kR (su (bg0 r p P 2) 30 41 (nI (P + 1 + 1))) (su (su (bg0 r p P 2) 30 41 (nI (P + 1 + 1))) 48 p (nI x)) := kR_su kR.rf (by omega) (by omega)
    have Kx := kR_Tk kx (Tk_next K0 hP1)
    have Yx := kR_Ty kx (Ty_next (P := P + 1 + 1) Y0)
    have Mx := kR_Tm kx (Tm_next (P := P + 1 + 1) M0)
    have Ex : EnP (su (su (bg0 r p P 2) 30 41 (nI (P + 1 + 1))) 48 p (nI x)) p 2 0 (-2) (-2) (-2) (nI x) (r 49 p) := by
      obtain ⟨⟨e1, e2, e3, e4, e5, e6⟩, e7, e8⟩ := E0
      exact ⟨⟨e1, e2, e3, e4, e5, e6⟩, by rw [su_row, upd_s], e8⟩
    have Fmx : fRM T n p r (su (su (bg0 r p P 2) 30 41 (nI (P + 1 + 1))) 48 p (nI x)) := fRM_su (fRM_30 fm0 (by omega)) (by omega) (by omega) (Nat.le_refl p)
    have Fxx : fRX T n c (su (su c 28 4 (nI (P + 1))) 28 4 (nI (P + 1 + 1))) := fRX_su fx0
    have zx : (su (su (bg0 r p P 2) 30 41 (nI (P + 1 + 1))) 48 p (nI x)) 30 22 = -2 := z0
    have hx14 : (su (su (bg0 r p P 2) 30 41 (nI (P + 1 + 1))) 48 p (nI x)) 30 14 = nI (p + 1) := Ex.1.1
    generalize hRx : su (su (bg0 r p P 2) 30 41 (nI (P + 1 + 1))) 48 p (nI x) = Rx at *
    generalize hcx : su (su c 28 4 (nI (P + 1))) 28 4 (nI (P + 1 + 1)) = cx at *
    rw [show (58 : Int32) = nI 58 from rfl]
    by_cases h58 : bt cx (P + 1 + 1) M = some 58
    · have hP2 := bt_s h58
      have K3 := Tk_next Kx hP2
      obtain ⟨vy, c4, r4, xy, T1, hT1, Y4, fx4, fm4, o4⟩ := rt_sim (M := M) (top := p + 1) d 130 (l + 1) 0 (su cx 28 4 (nI (P + 1 + 1 + 1))) (su Rx 30 41 (nI (P + 1 + 1 + 1))) T (P + 1 + 1 + 1) (by omega) (by omega) (by omega) (Ty_next Yx) K3 (by rw [su_row, upd_n (by omega)]; exact hx14)
      have M4 : Tm c4 r4 T1 n := Tm_T hT1 fx4 fm4 (Tm_next Mx)
      rw [pass_t Kx (by omega) h58, bd_s, if_pos (by decide), nI_1, xy, bd_s]
      have Fx4 : fRX T n c c4 := (fRX_su Fxx).tr (Nat.le_refl T) (Nat.le_refl n) (fRX_T fx4)
      have Fm4 : fRM T n p r r4 := (fRM_30 Fmx (by omega)).tr (Nat.le_refl T) (Nat.le_refl n) (Nat.le_refl p) (fRM_T fm4)
      rcases o4 with ⟨y, P4, hy, rfl, K4, e4⟩ | ⟨hF, e4⟩
      · have T40 := Y4.2.2.2.1
        have ry : m_readType (su Rx 30 41 (nI (P + 1 + 1 + 1))) = some (nI y, r4) := (e4 (-2)).trans (rt_done K4)
        have k5 : kR r4 (su r4 49 p (nI y)) := kR_su kR.rf (by omega) (by omega)
        have keep : ∀ q, 43 ≤ q → q ≤ 49 → r4 q = Rx q := fun q h1 h2 => by rw [fm4.1 q (by omega), su_ne (by omega)]
        have E5 : EnP (su r4 49 p (nI y)) p 2 0 (-2) (-2) (-2) (nI x) (nI y) := by
          obtain ⟨⟨e1, e2, e3, e4', e5, e6⟩, e7, e8⟩ := Ex
          refine ⟨⟨?_, ?_, ?_, ?_, ?_, ?_⟩, ?_, by rw [su_row, upd_s]⟩
          · rw [su_ne (by omega), fm4.2.1 14 (by omega) (by omega) (by omega), su_row, upd_n (by omega)]; exact e1
          · rw [su_ne (by omega), keep 43 (by omega) (by omega)]; exact e2
          · rw [su_ne (by omega), keep 44 (by omega) (by omega)]; exact e3
          · rw [su_ne (by omega), keep 45 (by omega) (by omega)]; exact e4'
          · rw [su_ne (by omega), keep 46 (by omega) (by omega)]; exact e5
          · rw [su_ne (by omega), keep 47 (by omega) (by omega)]; exact e6
          · rw [su_ne (by omega), keep 48 (by omega) (by omega)]; exact e7
        have z5 : (su r4 49 p (nI y)) 30 22 = -2 := by rw [su_ne (by omega), fm4.2.1 22 (by omega) (by omega) (by omega), su_row, upd_n (by omega)]; exact zx
        obtain ⟨R1, v1, c1, r1, m1, x1, s1, T2, n2, hT2, hn2, Y1, M1, fx1, fm1, o1⟩ := rd_tb (k := 46) ih hl hp hg (by omega) (kR_Ty k5 Y4) (kR_Tm k5 M4) (kR_Tk k5 K4) E5 z5
        have S0 := s0 (R := R1) (by
          rw [q2, bd_s, hRx, must_t Kx (by omega) h58, bd_s, if_pos K3.2.2.2.2.2, ry, bd_s, m1, bd_s])
        rw [if_pos (cj (n := T1) hy (by omega)), show nI (l + 1) = nI l + 1 from (nI_1 l).symm, show (46 : Int32) = nI 46 from rfl, x1, bd_s]
        have Fx1 := Fx4.tr hT1 (Nat.le_refl n) fx1
        have Fm1 := (fRM_su (q := 49) (i := p) (v := nI y) Fm4 (by omega) (by omega) (Nat.le_refl p)).tr hT1 (Nat.le_refl n) (Nat.le_refl p) fm1
        rcases o1 with ⟨P1, t1, ht1, rfl, K1, E1, g1⟩ | hF
        · rw [if_pos (cj ht1 M1.2.2.1)]
          have k1 := kR_stR (r := r1) (p := p) (s := 0)
          have En1 : EnP (stR r1 p 0) p 2 1 (nI t1) (-2) (-2) (nI x) (nI y) := (stR_En E1 g1).1
          obtain ⟨v, c', r', x4, m4, h4⟩ := rd_mk (lx := some x) (ty := some y) (oa := some t1) (ob' := none) (od := none) (kR_Ty k1 Y1) (kR_Tm k1 M1) (kR_Tk k1 K1) En1 (by omega) (by omega) ⟨by decide, rfl, lo_s hx, lo_s (by omega), lo_s ht1, lo_n, lo_n⟩ rfl rfl rfl rfl rfl
          have p1 : m_readPart r1 = some ((), r') := by
            rw [rp_eq E1 (by omega) (by omega), if_pos (by decide), if_neg (by decide)]
            unfold m_readPart_P160 m_readPart_P178 m_readPart_P207
            rw [if_pos (by decide), if_neg (by decide), if_neg (by decide), if_neg (by decide), if_neg (by decide), if_neg (by decide)]
            exact m4
          have S1 := rp_step (a := a) (b := b) K1.2.2.2.2.2 g1 (by have := M1.2.2.1; omega) E1.1.1 (by omega) p1
          refine ⟨v, c', r', x4, ?_, RS_seq (by omega) (by omega) Fx1 (fRM_stR (s := 0) Fm1) h4⟩
          rw [S0, s1, S1]
        · exact ⟨v1, c1, r1, by rw [if_neg (Fl_neg hF)], by rw [S0, s1], T2, n2, by omega, by omega, Y1, M1, Fx1, Fm1, Or.inr hF⟩
      · obtain ⟨w, hw⟩ := e4 (-2)
        have ry : m_readType (su Rx 30 41 (nI (P + 1 + 1 + 1))) = some (w, r4) := hw
        have k5 : kR r4 (su r4 49 p w) := kR_su kR.rf (by omega) (by omega)
        refine ⟨vy, c4, su r4 49 p w, by rw [if_neg (Fl_neg hF)], s0 (by rw [q2, bd_s, hRx, must_t Kx (by omega) h58, bd_s, if_pos K3.2.2.2.2.2, ry, bd_s, must_n (by rw [su_ne (by omega)]; exact Fl_42 hF), bd_s]), T1, n, hT1, Nat.le_refl n, kR_Ty k5 Y4, kR_Tm k5 M4, Fx4, fRM_su Fm4 (by omega) (by omega) (Nat.le_refl p), Or.inr ?_⟩
        unfold Fl
        rw [su_ne (by omega)]
        exact hF
    · have n42 : ¬ (su (su Rx 30 42 1) 49 p (-2)) 30 42 = 0 := n10
      refine ⟨-10 - nI (P + 1 + 1), cx, su (su Rx 30 42 1) 49 p (-2), ?_, s0 (by rw [q2, bd_s, hRx, must_f Kx (by omega) h58, bd_s, if_neg (by rw [su_row, upd_s]; decide), must_n n42, bd_s]), RS_seq (Nat.le_refl T) (Nat.le_refl n) Fxx Fmx (RS_w2 Yx Mx Kx (fRM_su (fRM_30 fRM.rf (by omega)) (by omega) (by omega) (Nat.le_refl p)) rfl rfl (fun q h1 h2 => by rw [su_ne (by omega), su_ne (by omega)]) rfl rfl)⟩
      rw [pass_f Kx (by omega) h58, bd_s, if_neg (wr_neg (P + 1 + 1) (by have := Kx.2.1; have := Kx.2.2.2.2.1; omega))]
  · have n42 : ¬ (su (su (bg0 r p P 2) 30 42 1) 48 p 0) 30 42 = 0 := n10
    have n42' : ¬ (su (su (su (bg0 r p P 2) 30 42 1) 48 p 0) 49 p (-2)) 30 42 = 0 := n10
    refine ⟨-10 - nI (P + 1), _, su (su (su (bg0 r p P 2) 30 42 1) 48 p 0) 49 p (-2), ?_, s0 (by rw [q2, bd_s, must_n n42, bd_s, if_neg n42, must_n n42', bd_s]), RS_seq (Nat.le_refl T) (Nat.le_refl n) fx0 fm0 (RS_w2 Y0 M0 K0 (fRM_su (fRM_su (fRM_30 fRM.rf (by omega)) (by omega) (by omega) (Nat.le_refl p)) (by omega) (by omega) (Nat.le_refl p)) rfl rfl (fun q h1 h2 => by rw [su_ne (by omega), su_ne (by omega), su_ne (by omega)]) rfl rfl)⟩
    rw [show (92 : Int32) = nI 92 from rfl, q1, bd_s, if_neg (wr_neg (P + 1) (by have := K0.2.1; have := K0.2.2.2.2.1; omega))]
