theorem RS_w2 {M T n p P : Nat} {c r r' : jS} (hT : Ty c r T) (hM : Tm c r T n) (hK : Tk M c r P) (fm : fRM T n p r r') (h0 : r' 30 0 = r 30 0) (h5 : r' 30 5 = r 30 5) (h31 : ∀ q, 31 ≤ q → q ≤ 33 → r' q = r q) (h41 : r' 30 41 = r 30 41) (h42 : r' 30 42 = 1) : RS M T n p c r (-10 - nI P) c r' :=
  ⟨T, n, Nat.le_refl T, Nat.le_refl n, Ty_r (fun _ _ _ => rfl) h0 h31 hT, Tm_r fm.2.2.2.1 h5 hM, fRX.rf, fm, Or.inr (Fl_tk hK h41 h42)⟩
theorem pair2 {M d g l p P T n K z t1 : Nat} {a b X U : Int32} {c R : jS} (ih : RD M a b d) (hl : l + 1 + d = 41) (hp : l = p + 1) (hg : 3 * d + 1 ≤ g) (hKz : (K = 3 ∧ z = 32) ∨ (K = 5 ∧ z = 43)) (hT : Ty c R T) (hM : Tm c R T n) (hK : Tk M c R P) (E : EnP R p K 1 (nI t1) (-2) (-2) X U) (h22 : R 30 22 = -2) (ht1 : t1 < n) :
    ∃ v c' r' Rz, xReader_pairHere_P38 (xReader_termHere (g + 1)) (xReader_functionHere (g + 1)) (xReader_termBehind (g + 1)) (xReader_pairHere (g + 1)) (xReader_letHere (g + 1)) (xReader_choiceHere (g + 1)) (nI l) (nI t1) (nI z) c = some (v, c') ∧ m_must R (nI z) = some ((), Rz) ∧ m_read_L31 a b Rz = m_read_L31 a b r' ∧ RS M T n p c R v c' r' := by
  unfold xReader_pairHere_P38
  simp only [xTerms_newJoined, bd_etaI]
  obtain ⟨R1, v2, c2, r2, m2, x2, s2, T2, n2, hT2, hn2, Y2, M2, fx2, fm2, o2⟩ := rd_tb (k := z) ih hl hp hg (by omega) hT hM hK E h22
  rw [x2, bd_s]
  rcases o2 with ⟨P2, t2, ht2, rfl, K2, E2, g2⟩ | hF
  · rw [if_pos (cj ht2 M2.2.2.1)]
    have k2 := kR_stR (r := r2) (p := p) (s := 1)
    have En2 : EnP (stR r2 p 1) p K 2 (nI t1) (nI t2) (-2) X U := (stR_En E2 g2).1
    have hsh : shp T2 n2 K none none (some t1) (some t2) none := by
      rcases hKz with ⟨rfl, -⟩ | ⟨rfl, -⟩
      · exact ⟨by decide, rfl, lo_n, lo_n, lo_s (by omega), lo_s ht2, lo_n⟩
      · exact ⟨by decide, rfl, lo_n, lo_n, lo_s (by omega), lo_s ht2, lo_n⟩
    obtain ⟨v, c', r', x4, m4, h4⟩ := rd_cl (k := 41) (lx := none) (ty := none) (oa := some t1) (ob' := some t2) (od := none) (by omega) (kR_Ty k2 Y2) (kR_Tm k2 M2) (kR_Tk k2 K2) En2 (by omega) (by omega) hsh (by rw [if_neg (show ¬ (K = 2 ∨ K = 4) by omega)]; rfl) (by rw [if_neg (show ¬ K = 2 by omega)]; rfl) rfl rfl rfl
    have p2 : m_readPart r2 = some ((), r') := by
      rw [rp_eq E2 (by omega) (by omega), if_neg (by decide)]
      unfold m_readPart_P160 m_readPart_P178 m_readPart_P207 m_readPart_P217
      rcases hKz with ⟨rfl, -⟩ | ⟨rfl, -⟩
      · rw [if_neg (by decide), if_neg (by decide), if_pos (by decide)]
        exact m4
      · rw [if_neg (by decide), if_neg (by decide), if_neg (by decide), if_pos (by decide)]
        exact m4
    have S2 := rp_step (a := a) (b := b) K2.2.2.2.2.2 g2 (by have := M2.2.2.1; omega) E2.1.1 (by omega) p2
    refine ⟨v, c', r', R1, ?_, m2, by rw [s2, S2], RS_seq hT2 hn2 fx2 (fRM_stR (s := 1) fm2) h4⟩
    rw [← x4]
    rcases hKz with ⟨rfl, rfl⟩ | ⟨rfl, rfl⟩
    · simp only [show (nI 32 = (32 : Int32)) = True from eq_true rfl, if_true]
      rfl
    · simp only [show (nI 43 = (32 : Int32)) = False from eq_false (by decide), if_false]
      rfl
  · exact ⟨v2, c2, r2, R1, by rw [if_neg (Fl_neg hF)], m2, s2, T2, n2, hT2, hn2, Y2, M2, fx2, fm2, Or.inr hF⟩
theorem byte_kR {r r' : jS} (h : kR r r') : m_byteHere r' = m_byteHere r := by
  unfold m_byteHere
  rw [h.2.2 40 (by omega), h.2.2 41 (by omega), h.2.1]
set_option maxHeartbeats 1000000 in
theorem rd_pair {M d g l p P T n : Nat} {a b : Int32} {c r : jS} (ih : RD M a b d) (hl : l + 1 + d = 41) (hp : l = p + 1) (hg : 3 * d + 1 ≤ g) (hT : Ty c r T) (hM : Tm c r T n) (hK : Tk M c r P) (h14 : r 30 14 = nI p) (h22 : r 30 22 = -2) (hb : bt c P M = some 40) :
    ∃ v c' r', xReader_pairHere (g + 1 + 1) c (nI l) = some (v, c') ∧ m_read_L31 a b r = m_read_L31 a b r' ∧ RS M T n p c r v c' r' := by
  have hP := bt_s hb
  obtain ⟨Y0, M0, K0, E0, z0, fm0⟩ := bg0_ok (p := p) (K := 3) hT hM hK hP
  have fx0 : fRX T n c (su c 28 4 (nI (P + 1))) := fRX_su fRX.rf
  have s0 : m_read_L31 a b r = m_read_L31 a b (bg0 r p P 3) := rb_step hK.2.2.2.2.2 h22 h14 (by omega) (by rw [rb_40 (by rw [m_byte hK, hb]; rfl), bg36 hK h14 (by omega) (Or.inl rfl)])
  rw [xReader_pairHere_s]
  unfold b_xReader_pairHere
  obtain ⟨v1, c1, r1, q1, s1, h1⟩ := ih g (l + 1) (p + 1) (su c 28 4 (nI (P + 1))) (bg0 r p P 3) T n (P + 1) (by omega) (by omega) hg Y0 M0 K0 E0.1.1 z0
  obtain ⟨T1, n1, hT1, hn1, Y1, M1, fx1, fm1, o1⟩ := RP_RS E0 h1
  rw [show (40 : Int32) = nI 40 from rfl, tb_t hK (by omega) hb, nI_1, q1, bd_s]
  have Fx1 := fx0.tr (Nat.le_refl T) (Nat.le_refl n) fx1
  have Fm1 := fm0.tr (Nat.le_refl T) (Nat.le_refl n) (Nat.le_refl p) fm1
  rcases o1 with ⟨P1, t1, ht1, rfl, K1, E1, g1⟩ | hF
  · have hB := bt_lo (c := c1) (P := P1) (M := M)
    have i1 : ix (nI p) 90 = true := ix_nI (by omega) (by decide)
    have kp : (nI p).toNatClampNeg = p := nI_clamp (by omega)
    have k1 := kR_stR (r := r1) (p := p) (s := 0)
    have kk : ∀ v, kR r1 (su (stR r1 p 0) 43 p v) := fun v => kR_su k1 (by omega) (by omega)
    have En1 : EnP (stR r1 p 0) p 3 1 (nI t1) (-2) (-2) (r 48 p) (r 49 p) := (stR_En E1 g1).1
    have En2 : ∀ K, EnP (su (stR r1 p 0) 43 p (nI K)) p K 1 (nI t1) (-2) (-2) (r 48 p) (r 49 p) := fun K => by
      obtain ⟨⟨e1, e2, e3, e4, e5, e6⟩, e7, e8⟩ := En1
      exact ⟨⟨e1, by rw [su_row, upd_s], e3, e4, e5, e6⟩, e7, e8⟩
    have z2 : ∀ v, (su (stR r1 p 0) 43 p v) 30 22 = -2 := fun v => (stR_En E1 g1).2
    have Fm2 : ∀ v, fRM T n p r (su (stR r1 p 0) 43 p v) := fun v => fRM_su (fRM_stR (s := 0) Fm1) (by omega) (by omega) (Nat.le_refl p)
    have pe : m_readPart r1 = (if bm (bt c1 P1 M) = 43 then bd (m_must (su (stR r1 p 0) 43 p (nI 5)) (nI 43)) (fun _ c19 => some ((), c19)) else bd (m_must (su (stR r1 p 0) 43 p (nI 3)) (nI 32)) (fun _ c19 => some ((), c19))) := by
      rw [rp_eq E1 (by omega) (by omega), if_pos (by decide), if_pos (by decide), byte_kR k1, m_byte K1, ob_s]
      unfold m_readPart_P136
      simp only [gd_t i1, ltS, kp, byte_kR (kk _), m_byte K1, ob_s]
      by_cases h43 : bm (bt c1 P1 M) = 43
      · rw [if_pos h43, if_pos h43, if_pos h43]; rfl
      · rw [if_neg h43, if_neg h43, if_neg h43]; rfl
    rw [if_pos (cj ht1 M1.2.2.1), x_byte K1, ob_s]
    by_cases h43 : bt c1 P1 M = some 43
    · rw [if_neg (show ¬ bx (bt c1 P1 M) = 32 from by rw [h43]; decide), if_pos (show bx (bt c1 P1 M) = 43 from by rw [h43]; rfl), h43, show bx (some 43) = nI 43 from rfl]
      obtain ⟨v, c', r', Rz, x2, m2, s2, h2⟩ := pair2 (K := 5) (z := 43) ih hl hp hg (Or.inr ⟨rfl, rfl⟩) (kR_Ty (kk _) Y1) (kR_Tm (kk _) M1) (kR_Tk (kk _) K1) (En2 5) (z2 _) ht1
      have p1 : m_readPart r1 = some ((), Rz) := by rw [pe, if_pos (show bm (bt c1 P1 M) = 43 from by rw [h43]; rfl), m2, bd_s]
      have S1 := rp_step (a := a) (b := b) K1.2.2.2.2.2 g1 (by have := M1.2.2.1; omega) E1.1.1 (by omega) p1
      exact ⟨v, c', r', x2, by rw [s0, s1, S1, s2], RS_seq hT1 hn1 Fx1 (Fm2 _) h2⟩
    · have m43 : ¬ bm (bt c1 P1 M) = 43 := fun e => h43 ((bm_eq (k := 43) hB (by omega)).mp e)
      rw [if_neg m43] at pe
      by_cases h32 : bt c1 P1 M = some 32
      · rw [if_pos (show bx (bt c1 P1 M) = 32 from by rw [h32]; rfl), h32, show bx (some 32) = nI 32 from rfl]
        obtain ⟨v, c', r', Rz, x2, m2, s2, h2⟩ := pair2 (K := 3) (z := 32) ih hl hp hg (Or.inl ⟨rfl, rfl⟩) (kR_Ty (kk _) Y1) (kR_Tm (kk _) M1) (kR_Tk (kk _) K1) (En2 3) (z2 _) ht1
        have p1 : m_readPart r1 = some ((), Rz) := by rw [pe, m2, bd_s]
        have S1 := rp_step (a := a) (b := b) K1.2.2.2.2.2 g1 (by have := M1.2.2.1; omega) E1.1.1 (by omega) p1
        exact ⟨v, c', r', x2, by rw [s0, s1, S1, s2], RS_seq hT1 hn1 Fx1 (Fm2 _) h2⟩
      · have K2 : Tk M c1 (su (stR r1 p 0) 43 p (nI 3)) P1 := kR_Tk (kk _) K1
        have p1 : m_readPart r1 = some ((), su (su (stR r1 p 0) 43 p (nI 3)) 30 42 1) := by rw [pe, must_f K2 (by omega) h32, bd_s]
        have S1 := rp_step (a := a) (b := b) K1.2.2.2.2.2 g1 (by have := M1.2.2.1; omega) E1.1.1 (by omega) p1
        refine ⟨-10 - nI P1, c1, su (su (stR r1 p 0) 43 p (nI 3)) 30 42 1, ?_, by rw [s0, s1, S1], RS_seq hT1 hn1 Fx1 (Fm2 (nI 3)) (RS_wr (kR_Ty (kk _) Y1) (kR_Tm (kk _) M1) K2)⟩
        unfold xReader_wrongHere
        rw [if_neg (show ¬ bx (bt c1 P1 M) = 32 from fun e => h32 ((bx_eq (k := 32) hB (by omega)).mp e)), if_neg (show ¬ bx (bt c1 P1 M) = 43 from fun e => h43 ((bx_eq (k := 43) hB (by omega)).mp e)), ob_s, K1.2.2.1]
  · exact ⟨v1, c1, r1, by rw [if_neg (Fl_neg hF)], by rw [s0, s1], T1, n1, by omega, by omega, Y1, M1, Fx1, Fm1, Or.inr hF⟩
