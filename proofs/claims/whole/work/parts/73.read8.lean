/-- a frame that is begun -/
def bg0 (r : jS) (p P K : Nat) : jS := su (psh (su r 30 41 (nI (P + 1))) p (nI K)) 30 22 (-2)
theorem bg0_kR {r : jS} {p P K : Nat} : kR (su r 30 41 (nI (P + 1))) (bg0 r p P K) := kR_30 (kR_psh kR.rf) (by omega)
theorem bg0_ok {M T n p P K : Nat} {c r : jS} (hT : Ty c r T) (hM : Tm c r T n) (hK : Tk M c r P) (hP : P < M) :
    Ty (su c 28 4 (nI (P + 1))) (bg0 r p P K) T ∧ Tm (su c 28 4 (nI (P + 1))) (bg0 r p P K) T n ∧ Tk M (su c 28 4 (nI (P + 1))) (bg0 r p P K) (P + 1) ∧ EnP (bg0 r p P K) p K 0 (-2) (-2) (-2) (r 48 p) (r 49 p) ∧ (bg0 r p P K) 30 22 = -2 ∧ fRM T n p r (bg0 r p P K) := by
  have k := bg0_kR (r := r) (p := p) (P := P) (K := K)
  refine ⟨kR_Ty k (Ty_next hT), kR_Tm k (Tm_next hM), kR_Tk k (Tk_next hK hP), ⟨En_psh (r := su r 30 41 (nI (P + 1))) (p := p) (t := K), rfl, rfl⟩, by unfold bg0; rw [su_row, upd_s], fRM_30 (fRM_psh (fRM_30 fRM.rf (by omega)) (Nat.le_refl p)) (by omega)⟩
theorem bg36 {M p P K : Nat} {c r : jS} (hK : Tk M c r P) (h14 : r 30 14 = nI p) (hp : p < 90) (h : K = 3 ∨ K = 6) : m_readBegin_P114 (nI K) r = some ((), bg0 r p P K) := by
  unfold m_readBegin_P114
  rw [if_neg (nI_ne (by omega) (by decide)), hK.2.2.2.1, nI_1, ltS, m_push_t (show (su r 30 41 (nI (P + 1))) 30 14 = nI p by rw [su_row, upd_n (by omega)]; exact h14) hp, bd_s, ltS]
  rcases h with rfl | rfl
  · rw [if_neg (by decide), if_neg (by decide)]; rfl
  · rw [if_neg (by decide), if_neg (by decide)]; rfl
theorem rb_40 {r : jS} (h : m_byteHere r = some (nI 40)) : m_readBegin r = m_readBegin_P114 (nI 3) r := by
  unfold m_readBegin
  rw [h, ob_s, m_in_lo (by decide), ob_s, if_pos rfl, if_neg (by decide), m_in_lo (by decide), ob_s, if_pos rfl, if_neg (by decide), if_pos (by decide)]
  rfl
theorem rb_123 {r : jS} (h : m_byteHere r = some (nI 123)) : m_readBegin r = m_readBegin_P114 (nI 6) r := by
  unfold m_readBegin
  rw [h, ob_s, m_in_hi (by decide) (by decide), ob_s, if_pos rfl, if_neg (by decide), m_in_hi (by decide) (by decide), ob_s, if_pos rfl, if_neg (by decide), if_neg (by decide), if_neg (by decide), if_pos (by decide)]
  rfl
theorem rb_91 {r : jS} (h : m_byteHere r = some (nI 91)) : m_readBegin r = m_readBegin_P114 4 r := by
  unfold m_readBegin
  rw [h, ob_s, m_in_lo (by decide), ob_s, if_pos rfl, if_neg (by decide), m_in_hi (by decide) (by decide), ob_s, if_pos rfl, if_neg (by decide), if_neg (by decide), if_pos (by decide)]
theorem rb_92 {r : jS} (h : m_byteHere r = some (nI 92)) : m_readBegin r = m_readBegin_P114 2 r := by
  unfold m_readBegin
  rw [h, ob_s, m_in_lo (by decide), ob_s, if_pos rfl, if_neg (by decide), m_in_hi (by decide) (by decide), ob_s, if_pos rfl, if_pos (by decide)]
theorem cj {n t : Nat} (h : t < n) (hn : n ≤ 400) : (0 : Int32) ≤ nI t := nI_pos' (by omega)
set_option maxHeartbeats 1000000 in
theorem rd_choice {M d g l p P T n : Nat} {a b : Int32} {c r : jS} (ih : RD M a b d) (hl : l + 1 + d = 41) (hp : l = p + 1) (hg : 3 * d + 1 ≤ g) (hT : Ty c r T) (hM : Tm c r T n) (hK : Tk M c r P) (h14 : r 30 14 = nI p) (h22 : r 30 22 = -2) (hb : bt c P M = some 123) :
    ∃ v c' r', xReader_choiceHere (g + 1 + 1) c (nI l) = some (v, c') ∧ m_read_L31 a b r = m_read_L31 a b r' ∧ RS M T n p c r v c' r' := by
  have hP := bt_s hb
  obtain ⟨Y0, M0, K0, E0, z0, fm0⟩ := bg0_ok (p := p) (K := 6) hT hM hK hP
  have fx0 : fRX T n c (su c 28 4 (nI (P + 1))) := fRX_su fRX.rf
  have s0 : m_read_L31 a b r = m_read_L31 a b (bg0 r p P 6) := rb_step hK.2.2.2.2.2 h22 h14 (by omega) (by rw [rb_123 (by rw [m_byte hK, hb]; rfl), bg36 hK h14 (by omega) (Or.inr rfl)])
  rw [xReader_choiceHere_s]
  unfold b_xReader_choiceHere
  simp only [xTerms_newJoined, bd_etaI]
  obtain ⟨v1, c1, r1, q1, s1, h1⟩ := ih g (l + 1) (p + 1) (su c 28 4 (nI (P + 1))) (bg0 r p P 6) T n (P + 1) (by omega) (by omega) hg Y0 M0 K0 E0.1.1 z0
  obtain ⟨T1, n1, hT1, hn1, Y1, M1, fx1, fm1, o1⟩ := RP_RS E0 h1
  rw [show (123 : Int32) = nI 123 from rfl, tb_t hK (by omega) hb, nI_1, q1, bd_s]
  have Fx1 := fx0.tr (Nat.le_refl T) (Nat.le_refl n) fx1
  have Fm1 := fm0.tr (Nat.le_refl T) (Nat.le_refl n) (Nat.le_refl p) fm1
  rcases o1 with ⟨P1, t1, ht1, rfl, K1, E1, g1⟩ | hF
  · rw [if_pos (cj ht1 M1.2.2.1)]
    have k1 := kR_stR (r := r1) (p := p) (s := 0)
    have En1 : EnP (stR r1 p 0) p 6 1 (nI t1) (-2) (-2) (r 48 p) (r 49 p) := (stR_En E1 g1).1
    obtain ⟨R1, v2, c2, r2, m2, x2, s2, T2, n2, hT2, hn2, Y2, M2, fx2, fm2, o2⟩ := rd_tb (k := 63) ih hl hp hg (by omega) (kR_Ty k1 Y1) (kR_Tm k1 M1) (kR_Tk k1 K1) En1 (stR_En E1 g1).2
    have p1 : m_readPart r1 = some ((), R1) := by
      rw [rp_eq E1 (by omega) (by omega), if_pos (by decide), if_neg (by decide)]
      unfold m_readPart_P160 m_readPart_P178
      rw [if_pos (by decide), if_neg (by decide), if_pos (by decide), if_neg (by decide), if_pos (by decide), show (63 : Int32) = nI 63 from rfl, m2, bd_s]
    have S1 := rp_step (a := a) (b := b) K1.2.2.2.2.2 g1 (by have := M1.2.2.1; omega) E1.1.1 (by omega) p1
    rw [show nI (l + 1) = nI l + 1 from (nI_1 l).symm, show (63 : Int32) = nI 63 from rfl, x2, bd_s]
    have Fx2 := Fx1.tr hT1 hn1 fx2
    have Fm2 := (fRM_stR (s := 0) Fm1).tr hT1 hn1 (Nat.le_refl p) fm2
    rcases o2 with ⟨P2, t2, ht2, rfl, K2, E2, g2⟩ | hF
    · rw [if_pos (cj ht2 M2.2.2.1)]
      have k2 := kR_stR (r := r2) (p := p) (s := 1)
      have En2 : EnP (stR r2 p 1) p 6 2 (nI t1) (nI t2) (-2) (r 48 p) (r 49 p) := (stR_En E2 g2).1
      obtain ⟨R2, v3, c3, r3, m3, x3, s3, T3, n3, hT3, hn3, Y3, M3, fx3, fm3, o3⟩ := rd_tb (k := 58) ih hl hp hg (by omega) (kR_Ty k2 Y2) (kR_Tm k2 M2) (kR_Tk k2 K2) En2 (stR_En E2 g2).2
      have p2 : m_readPart r2 = some ((), R2) := by
        rw [rp_eq E2 (by omega) (by omega), if_neg (by decide)]
        unfold m_readPart_P160 m_readPart_P178
        rw [if_neg (by decide), if_pos (by decide), if_neg (by decide), if_neg (by decide), show (58 : Int32) = nI 58 from rfl, m3, bd_s]
      have S2 := rp_step (a := a) (b := b) K2.2.2.2.2.2 g2 (by have := M2.2.2.1; omega) E2.1.1 (by omega) p2
      rw [show (58 : Int32) = nI 58 from rfl, x3, bd_s]
      have Fx3 := Fx2.tr (by omega) (by omega) fx3
      have Fm3 := (fRM_stR (s := 1) Fm2).tr (by omega) (by omega) (Nat.le_refl p) fm3
      rcases o3 with ⟨P3, t3, ht3, rfl, K3, E3', g3⟩ | hF
      · rw [if_pos (cj ht3 M3.2.2.1)]
        have k3 := kR_stR (r := r3) (p := p) (s := 2)
        have En3 : EnP (stR r3 p 2) p 6 3 (nI t1) (nI t2) (nI t3) (r 48 p) (r 49 p) := (stR_En E3' g3).1
        obtain ⟨v, c', r', x4, m4, h4⟩ := rd_cl (k := 125) (lx := none) (ty := none) (oa := some t1) (ob' := some t2) (od := some t3) (by omega) (kR_Ty k3 Y3) (kR_Tm k3 M3) (kR_Tk k3 K3) En3 (by omega) (by omega) ⟨by decide, rfl, lo_n, lo_n, lo_s (by omega), lo_s (by omega), lo_s ht3⟩ rfl rfl rfl rfl rfl
        have p3 : m_readPart r3 = some ((), r') := by
          rw [rp_eq E3' (by omega) (by omega), if_neg (by decide)]
          unfold m_readPart_P160 m_readPart_P178 m_readPart_P207
          rw [if_neg (by decide), if_pos (by decide), if_pos (by decide), if_neg (by decide), if_neg (by decide), if_pos (by decide), show (125 : Int32) = nI 125 from rfl]
          exact m4
        have S3 := rp_step (a := a) (b := b) K3.2.2.2.2.2 g3 (by have := M3.2.2.1; omega) E3'.1.1 (by omega) p3
        refine ⟨v, c', r', x4, ?_, RS_seq (by omega) (by omega) Fx3 (fRM_stR (s := 2) Fm3) h4⟩
        rw [s0, s1, S1, s2, S2, s3, S3]
      · exact ⟨v3, c3, r3, by rw [if_neg (Fl_neg hF)], by rw [s0, s1, S1, s2, S2, s3], T3, n3, by omega, by omega, Y3, M3, Fx3, Fm3, Or.inr hF⟩
    · exact ⟨v2, c2, r2, by rw [if_neg (Fl_neg hF)], by rw [s0, s1, S1, s2], T2, n2, by omega, by omega, Y2, M2, Fx2, Fm2, Or.inr hF⟩
  · exact ⟨v1, c1, r1, by rw [if_neg (Fl_neg hF)], by rw [s0, s1], T1, n1, by omega, by omega, Y1, M1, Fx1, Fm1, Or.inr hF⟩
