/-- a letter behind a byte that is there -/
theorem lb {M P k : Nat} {c r R0 : jS} (hK : Tk M c r P) (hk : k < 256) (hb : bt c P M = some k) (K0 : Tk M (su c 28 4 (nI (P + 1))) R0 (P + 1)) :
    (∃ x, x < 26 ∧ P + 1 < M ∧ xReader_letterBehind c (nI k) = some (nI x, su (su c 28 4 (nI (P + 1))) 28 4 (nI (P + 1 + 1))) ∧ m_mustLetter R0 = some (nI x, su R0 30 41 (nI (P + 1 + 1)))) ∨
    (xReader_letterBehind c (nI k) = some (-10 - nI (P + 1), su c 28 4 (nI (P + 1))) ∧ m_mustLetter R0 = some (0, su R0 30 42 1)) := by
  have hB := bt_lo (c := su c 28 4 (nI (P + 1))) (P := P + 1) (M := M)
  unfold xReader_letterBehind m_mustLetter
  rw [pass_t hK hk hb, bd_s, if_pos (by decide), x_byte K0, ob_s, m_byte K0, ob_s, if_pos K0.2.2.2.2.2]
  rcases let_cases hB (su c 28 4 (nI (P + 1))) R0 with ⟨x, hx, e1, e2, e3, e4, e5⟩ | ⟨-, e2, e4⟩
  · refine Or.inl ⟨x, hx, bt_s e1, ?_, ?_⟩
    · rw [e2, ob_s, if_neg n10, K0.2.2.1, nI_1, ltS, e3]
    · rw [e4, ob_s, if_neg n10, K0.2.2.2.1, nI_1, ltS, e5]
  · refine Or.inr ⟨?_, ?_⟩
    · unfold xReader_wrongHere
      rw [e2, ob_s, if_pos rfl, K0.2.2.1, ob_s]
    · unfold m_mustLetter_P38
      rw [e4, ob_s, if_pos rfl, if_pos K0.2.2.2.2.2, ltS]
theorem bg_4 {M p P : Nat} {c r : jS} (hK : Tk M c r P) (h14 : r 30 14 = nI p) (hp : p < 90) : m_readBegin_P114 4 r = bd (m_mustLetter (bg0 r p P 4)) (fun r8 c9 => bd (m_must (su c9 48 p r8) (nI 61)) (fun _ c11 => some ((), c11))) := by
  have i1 : ix (nI p) 90 = true := ix_nI hp (by decide)
  have kp : (nI p).toNatClampNeg = p := nI_clamp (by omega)
  unfold m_readBegin_P114
  rw [if_neg (by decide), hK.2.2.2.1, nI_1, ltS, m_push_t (show (su r 30 41 (nI (P + 1))) 30 14 = nI p by rw [su_row, upd_n (by omega)]; exact h14) hp, bd_s, ltS, if_neg (by decide), if_pos rfl]
  rw [show (psh (su r 30 41 (nI (P + 1))) p 4) 30 14 = nI (p + 1) from (En_psh (r := su r 30 41 (nI (P + 1))) (p := p) (t := 4)).1, nI_pred]
  simp only [gd_t i1, kp, ltS]
  rfl
theorem bg_2 {M p P : Nat} {c r : jS} (hK : Tk M c r P) (h14 : r 30 14 = nI p) (hp : p < 90) : m_readBegin_P114 2 r = bd (m_mustLetter (bg0 r p P 2)) (fun r12 c13 => bd (m_must (su c13 48 p r12) (nI 58)) (fun _ c15 => if c15 30 42 = 0 then bd (m_readType c15) (fun r18 c19 => bd (m_must (su c19 49 p r18) (nI 46)) (fun _ c21 => some ((), c21))) else bd (m_must (su c15 49 p (-2)) (nI 46)) (fun _ c17 => some ((), c17)))) := by
  have i1 : ix (nI p) 90 = true := ix_nI hp (by decide)
  have kp : (nI p).toNatClampNeg = p := nI_clamp (by omega)
  unfold m_readBegin_P114
  rw [if_neg (by decide), hK.2.2.2.1, nI_1, ltS, m_push_t (show (su r 30 41 (nI (P + 1))) 30 14 = nI p by rw [su_row, upd_n (by omega)]; exact h14) hp, bd_s, ltS, if_pos rfl]
  rw [show (psh (su r 30 41 (nI (P + 1))) p 2) 30 14 = nI (p + 1) from (En_psh (r := su r 30 41 (nI (P + 1))) (p := p) (t := 2)).1, nI_pred]
  simp only [gd_t i1, kp, ltS]
  rfl
set_option maxHeartbeats 1000000 in
theorem rd_let {M d g l p P T n : Nat} {a b : Int32} {c r : jS} (ih : RD M a b d) (hl : l + 1 + d = 41) (hp : l = p + 1) (hg : 3 * d + 1 ≤ g) (hT : Ty c r T) (hM : Tm c r T n) (hK : Tk M c r P) (h14 : r 30 14 = nI p) (h22 : r 30 22 = -2) (hb : bt c P M = some 91) :
    ∃ v c' r', xReader_letHere (g + 1 + 1) c (nI l) = some (v, c') ∧ m_read_L31 a b r = m_read_L31 a b r' ∧ RS M T n p c r v c' r' := by
  have hP := bt_s hb
  obtain ⟨Y0, M0, K0, E0, z0, fm0⟩ := bg0_ok (p := p) (K := 4) hT hM hK hP
  have fx0 : fRX T n c (su c 28 4 (nI (P + 1))) := fRX_su fRX.rf
  have s0 : ∀ {R : jS}, bd (m_mustLetter (bg0 r p P 4)) (fun r8 c9 => bd (m_must (su c9 48 p r8) (nI 61)) (fun _ c11 => some ((), c11))) = some ((), R) → m_read_L31 a b r = m_read_L31 a b R := fun {R} h => rb_step hK.2.2.2.2.2 h22 h14 (by omega) (by rw [rb_91 (by rw [m_byte hK, hb]; rfl), bg_4 hK h14 (by omega), h])
  rw [xReader_letHere_s]
  unfold b_xReader_letHere
  simp only [xTerms_newLet, bd_etaI]
  rcases lb (k := 91) hK (by omega) hb K0 with ⟨x, hx, hP1, q1, q2⟩ | ⟨q1, q2⟩
  · rw [show (91 : Int32) = nI 91 from rfl, q1, bd_s, if_pos (cj (n := 26) hx (by omega))]
    have Kx := Tk_next K0 hP1
    have kx : kR (su (bg0 r p P 4) 30 41 (nI (P + 1 + 1))) (su (su (bg0 r p P 4) 30 41 (nI (P + 1 + 1))) 48 p (nI x)) := kR_su kR.rf (by omega) (by omega)
    have Ex : EnP (su (su (bg0 r p P 4) 30 41 (nI (P + 1 + 1))) 48 p (nI x)) p 4 0 (-2) (-2) (-2) (nI x) (r 49 p) := by
      obtain ⟨⟨e1, e2, e3, e4, e5, e6⟩, e7, e8⟩ := E0
      exact ⟨⟨e1, e2, e3, e4, e5, e6⟩, by rw [su_row, upd_s], e8⟩
    have Fmx : fRM T n p r (su (su (bg0 r p P 4) 30 41 (nI (P + 1 + 1))) 48 p (nI x)) := fRM_su (fRM_30 fm0 (by omega)) (by omega) (by omega) (Nat.le_refl p)
    have Fxx : fRX T n c (su (su c 28 4 (nI (P + 1))) 28 4 (nI (P + 1 + 1))) := fRX_su fx0
    obtain ⟨R1, v1, c1, r1, m1, x1, s1, T1, n1, hT1, hn1, Y1, M1, fx1, fm1, o1⟩ := rd_tb (k := 61) ih hl hp hg (by omega) (kR_Ty kx (Ty_next Y0)) (kR_Tm kx (Tm_next M0)) (kR_Tk kx Kx) Ex z0
    have S0 := s0 (R := R1) (by rw [q2, bd_s, m1, bd_s])
    rw [show (61 : Int32) = nI 61 from rfl, x1, bd_s]
    have Fx1 := Fxx.tr (Nat.le_refl T) (Nat.le_refl n) fx1
    have Fm1 := Fmx.tr (Nat.le_refl T) (Nat.le_refl n) (Nat.le_refl p) fm1
    rcases o1 with ⟨P1, t1, ht1, rfl, K1, E1, g1⟩ | hF
    · rw [if_pos (cj ht1 M1.2.2.1)]
      have k1 := kR_stR (r := r1) (p := p) (s := 0)
      have En1 : EnP (stR r1 p 0) p 4 1 (nI t1) (-2) (-2) (nI x) (r 49 p) := (stR_En E1 g1).1
      obtain ⟨R2, v2, c2, r2, m2, x2, s2, T2, n2, hT2, hn2, Y2, M2, fx2, fm2, o2⟩ := rd_tb (k := 93) ih hl hp hg (by omega) (kR_Ty k1 Y1) (kR_Tm k1 M1) (kR_Tk k1 K1) En1 (stR_En E1 g1).2
      have p1 : m_readPart r1 = some ((), R2) := by
        rw [rp_eq E1 (by omega) (by omega), if_pos (by decide), if_neg (by decide)]
        unfold m_readPart_P160
        rw [if_pos (by decide), if_pos (by decide), show (93 : Int32) = nI 93 from rfl, m2, bd_s]
      have S1 := rp_step (a := a) (b := b) K1.2.2.2.2.2 g1 (by have := M1.2.2.1; omega) E1.1.1 (by omega) p1
      rw [show (93 : Int32) = nI 93 from rfl, x2, bd_s]
      have Fx2 := Fx1.tr hT1 hn1 fx2
      have Fm2 := (fRM_stR (s := 0) Fm1).tr hT1 hn1 (Nat.le_refl p) fm2
      rcases o2 with ⟨P2, t2, ht2, rfl, K2, E2, g2⟩ | hF
      · rw [if_pos (cj ht2 M2.2.2.1)]
        have k2 := kR_stR (r := r2) (p := p) (s := 1)
        have En2 : EnP (stR r2 p 1) p 4 2 (nI t1) (nI t2) (-2) (nI x) (r 49 p) := (stR_En E2 g2).1
        obtain ⟨v, c', r', x4, m4, h4⟩ := rd_mk (lx := some x) (ty := none) (oa := some t1) (ob' := some t2) (od := none) (kR_Ty k2 Y2) (kR_Tm k2 M2) (kR_Tk k2 K2) En2 (by omega) (by omega) ⟨by decide, rfl, lo_s hx, lo_n, lo_s (by omega), lo_s ht2, lo_n⟩ rfl rfl rfl rfl rfl
        have p2 : m_readPart r2 = some ((), r') := by
          rw [rp_eq E2 (by omega) (by omega), if_neg (by decide)]
          unfold m_readPart_P160 m_readPart_P178 m_readPart_P207
          rw [if_neg (by decide), if_neg (by decide), if_neg (by decide), if_neg (by decide), if_neg (by decide)]
          exact m4
        have S2 := rp_step (a := a) (b := b) K2.2.2.2.2.2 g2 (by have := M2.2.2.1; omega) E2.1.1 (by omega) p2
        refine ⟨v, c', r', x4, ?_, RS_seq (by omega) (by omega) Fx2 (fRM_stR (s := 1) Fm2) h4⟩
        rw [S0, s1, S1, s2, S2]
      · exact ⟨v2, c2, r2, by rw [if_neg (Fl_neg hF)], by rw [S0, s1, S1, s2], T2, n2, by omega, by omega, Y2, M2, Fx2, Fm2, Or.inr hF⟩
    · exact ⟨v1, c1, r1, by rw [if_neg (Fl_neg hF)], by rw [S0, s1], T1, n1, by omega, by omega, Y1, M1, Fx1, Fm1, Or.inr hF⟩
  · have n42 : ¬ (su (su (bg0 r p P 4) 30 42 1) 48 p 0) 30 42 = 0 := n10
    refine ⟨-10 - nI (P + 1), _, su (su (bg0 r p P 4) 30 42 1) 48 p 0, ?_, s0 (by rw [q2, bd_s, must_n n42, bd_s]), RS_seq (Nat.le_refl T) (Nat.le_refl n) fx0 fm0 (RS_w2 Y0 M0 K0 (fRM_su (fRM_30 fRM.rf (by omega)) (by omega) (by omega) (Nat.le_refl p)) rfl rfl (fun q h1 h2 => by rw [su_ne (by omega), su_ne (by omega)]) rfl rfl)⟩
    rw [show (91 : Int32) = nI 91 from rfl, q1, bd_s, if_neg (wr_neg (P + 1) (by have := K0.2.1; have := K0.2.2.2.2.1; omega))]
