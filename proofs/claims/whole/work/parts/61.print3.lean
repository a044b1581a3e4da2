theorem say_f {r r' : jS} {x : Int32} (h : m_say r x = some ((), r')) {q : Nat} (h1 : q ≠ 30) (h2 : q ≠ 56) : r' q = r q := by
  unfold m_say at h
  by_cases hc : r 30 35 = 4000
  · rw [if_pos hc, ltS] at h
    cases h
    rw [su_ne h1]
  · rw [if_neg hc] at h
    cases hi : ix (r 30 35) 4000 with
    | true =>
      rw [hi, gd_t rfl, ltS, ltS] at h
      cases h
      rw [su_ne h1, su_ne h2]
    | false =>
      rw [hi] at h
      cases h
theorem S0_pre {r r0 r' : jS} {L : Nat} {l : List Nat} (h : ∀ q, q < 57 ∨ 58 < q → r0 q = r q) (s : S0 r0 r' L l) : S0 r r' L l := by
  obtain ⟨a1, a2, a3, a4, a5⟩ := s
  exact ⟨fun q h1 h2 => (a1 q h1 h2).trans (h q (by omega)), fun k h1 h2 => (a2 k h1 h2).trans (by rw [h 30 (by omega)]), a3, fun i hi => (a4 i hi).trans (by rw [h 56 (by omega)]), a5⟩
theorem PG_pre {r r0 : jS} {L : Nat} (h : r0 30 = r 30) (s : PG r L) : PG r0 L := by unfold PG; rw [h]; exact s
set_option maxHeartbeats 1000000 in
theorem sy_type {c0 r0 : jS} {T : Nat} (hT : Ty c0 r0 T) : ∀ (f y q L : Nat) (r : jS), y < f → y < T → q + y ≤ 43 → r 31 = r0 31 → r 32 = r0 32 → r 57 q = nI y → r 58 q = 0 → PG r L →
    ∃ r', m_sayType_L16 (nI (q + 1)) r = m_sayType_L16 (nI q) r' ∧ S0 r r' L (txT c0 f y) ∧ ∀ i, i < q → r' 57 i = r 57 i ∧ r' 58 i = r 58 i
  | 0, y, q, L, r, h, _, _, _, _, _, _, _ => by omega
  | f + 1, y, q, L, r, hf, hy, hq, h31, h32, h57, h58, hP => by
    have h40 := hT.2.2.2.1
    have i1 : ix (nI q) 44 = true := ix_nI (by omega) (by decide)
    by_cases h0 : y = 0
    · subst h0
      obtain ⟨r1, e1, s1⟩ := say_1 (r := su r 58 q (nI 1)) (x := 105) (PG_pre rfl hP) (by omega)
      refine ⟨r1, ?_, ?_, fun i hi => ?_⟩
      · unfold m_sayType_L16
        refine lp_inl ?_
        show m_sayType_S16 (nI (q + 1)) r = _
        unfold m_sayType_S16
        rw [if_neg (nI_nle (by omega) (by omega)), nI_pred, gd_t i1, gd_t i1, gd_t i1, gd_t i1, ltS, nI_clamp (by omega), h57, h58, if_pos (by decide), show (0 : Int32) + 1 = nI 1 from rfl, show (105 : Int32) = nI 105 from rfl, e1, bd_s]
      · rw [txT, if_pos rfl]
        exact S0_pre (fun p hp => su_ne (by omega)) s1
      · rw [say_f e1 (by omega) (by omega), say_f e1 (by omega) (by omega), su_ne (by omega), su_row, upd_n (by omega)]
        exact ⟨rfl, rfl⟩
    · obtain ⟨a, b, ha, hb, d2, d3, -⟩ := hT.2.2.2.2.2.2 y (by omega) hy
      obtain ⟨m31, m32, -⟩ := hT.2.2.2.2.1 y hy
      have hne : ¬ nI y = (0 : Int32) := nI_ne0 (by omega) (by omega)
      have i2 : ix (nI y) 40 = true := ix_nI (by omega) (by decide)
      have i3 : ix (nI (q + 1)) 44 = true := ix_nI (by omega) (by decide)
      have ky : (nI y).toNatClampNeg = y := nI_clamp (by omega)
      have kq : (nI q).toNatClampNeg = q := nI_clamp (by omega)
      have kq1 : (nI (q + 1)).toNatClampNeg = q + 1 := nI_clamp (by omega)
      -- (
      obtain ⟨r1, e1, s1⟩ := say_1 (r := su r 58 q (nI 1)) (x := 40) (PG_pre rfl hP) (by omega)
      have v31 : r1 31 y = nI a := by rw [say_f e1 (by omega) (by omega), su_ne (by omega), h31, m31, d2]
      have t1 : m_sayType_L16 (nI (q + 1)) r = m_sayType_L16 (nI (q + 1 + 1)) (su (su r1 57 (q + 1) (nI a)) 58 (q + 1) 0) := by
        unfold m_sayType_L16
        refine lp_inl ?_
        show m_sayType_S16 (nI (q + 1)) r = _
        unfold m_sayType_S16 m_sayType_P86_16
        rw [if_neg (nI_nle (by omega) (by omega)), nI_pred, gd_t i1, gd_t i1, gd_t i1, gd_t i1, ltS, kq, h57, h58, if_neg hne, if_neg (by decide), if_pos rfl, show (0 : Int32) + 1 = nI 1 from rfl, show (40 : Int32) = nI 40 from rfl, e1, bd_s, if_pos rfl, gd_t i2, gd_t i3, ltS, gd_t i3, ltS, ky, kq1, v31, nI_1]
      have P1 : PG (su (su r1 57 (q + 1) (nI a)) 58 (q + 1) 0) (L + 1) := PG_pre rfl s1.2.2.1
      obtain ⟨r2, e2, s2, p2⟩ := sy_type hT f a (q + 1) (L + 1) (su (su r1 57 (q + 1) (nI a)) 58 (q + 1) 0) (by omega) (by omega) (by omega) (by rw [su_ne (by omega), su_ne (by omega), say_f e1 (by omega) (by omega), su_ne (by omega)]; exact h31) (by rw [su_ne (by omega), su_ne (by omega), say_f e1 (by omega) (by omega), su_ne (by omega)]; exact h32) (by rw [su_ne (by omega), su_row, upd_s]) (by rw [su_row, upd_s]) P1
      have S2 : S0 r r2 L ([40] ++ txT c0 f a) := (S0_pre (fun p hp => su_ne (by omega)) s1).tr (S0_pre (fun p hp => by rw [su_ne (by omega), su_ne (by omega)]) s2)
      have w57 : r2 57 q = nI y := by
        rw [(p2 q (by omega)).1, su_ne (by omega), su_row, upd_n (by omega), say_f e1 (by omega) (by omega), su_ne (by omega)]
        exact h57
      have w58 : r2 58 q = nI 1 := by
        rw [(p2 q (by omega)).2, su_row, upd_n (by omega), su_ne (by omega), say_f e1 (by omega) (by omega), su_row, upd_s]
      have w31 : r2 31 = r0 31 := by rw [S2.1 31 (by omega) (by omega)]; exact h31
      have w32 : r2 32 = r0 32 := by rw [S2.1 32 (by omega) (by omega)]; exact h32
      have low2 : ∀ i, i < q → r2 57 i = r 57 i ∧ r2 58 i = r 58 i := fun i hi => by
        rw [(p2 i (by omega)).1, (p2 i (by omega)).2, su_ne (by omega), su_row, upd_n (by omega), su_row, upd_n (by omega), su_ne (by omega), say_f e1 (by omega) (by omega), say_f e1 (by omega) (by omega), su_ne (by omega), su_row, upd_n (by omega)]
        exact ⟨rfl, rfl⟩
      -- >
      obtain ⟨r3, e3, s3⟩ := say_1 (r := su r2 58 q (nI 2)) (x := 62) (PG_pre rfl s2.2.2.1) (by omega)
      have v32 : r3 32 y = nI b := by rw [say_f e3 (by omega) (by omega), su_ne (by omega), w32, m32, d3]
      have t3 : m_sayType_L16 (nI (q + 1)) r2 = m_sayType_L16 (nI (q + 1 + 1)) (su (su r3 57 (q + 1) (nI b)) 58 (q + 1) 0) := by
        unfold m_sayType_L16
        refine lp_inl ?_
        show m_sayType_S16 (nI (q + 1)) r2 = _
        unfold m_sayType_S16 m_sayType_P86_16
        rw [if_neg (nI_nle (by omega) (by omega)), nI_pred, gd_t i1, gd_t i1, gd_t i1, gd_t i1, ltS, kq, w57, w58, if_neg hne, if_neg (by decide), if_neg (by decide), show nI 1 + 1 = nI 2 from rfl, show (62 : Int32) = nI 62 from rfl, e3, bd_s, if_neg (by decide), gd_t i2, gd_t i3, ltS, gd_t i3, ltS, ky, kq1, v32, nI_1]
      have P3 : PG (su (su r3 57 (q + 1) (nI b)) 58 (q + 1) 0) (L + 1 + (txT c0 f a).length + 1) := PG_pre rfl s3.2.2.1
      obtain ⟨r4, e4, s4, p4⟩ := sy_type hT f b (q + 1) (L + 1 + (txT c0 f a).length + 1) (su (su r3 57 (q + 1) (nI b)) 58 (q + 1) 0) (by omega) (by omega) (by omega) (by rw [su_ne (by omega), su_ne (by omega), say_f e3 (by omega) (by omega), su_ne (by omega)]; exact w31) (by rw [su_ne (by omega), su_ne (by omega), say_f e3 (by omega) (by omega), su_ne (by omega)]; exact w32) (by rw [su_ne (by omega), su_row, upd_s]) (by rw [su_row, upd_s]) P3
      have S4 : S0 r2 r4 (L + 1 + (txT c0 f a).length) ([62] ++ txT c0 f b) := (S0_pre (fun p hp => su_ne (by omega)) s3).tr (S0_pre (fun p hp => by rw [su_ne (by omega), su_ne (by omega)]) s4)
      have z57 : r4 57 q = nI y := by
        rw [(p4 q (by omega)).1, su_ne (by omega), su_row, upd_n (by omega), say_f e3 (by omega) (by omega), su_ne (by omega)]
        exact w57
      have z58 : r4 58 q = nI 2 := by
        rw [(p4 q (by omega)).2, su_row, upd_n (by omega), su_ne (by omega), say_f e3 (by omega) (by omega), su_row, upd_s]
      have low4 : ∀ i, i < q → r4 57 i = r2 57 i ∧ r4 58 i = r2 58 i := fun i hi => by
        rw [(p4 i (by omega)).1, (p4 i (by omega)).2, su_ne (by omega), su_row, upd_n (by omega), su_row, upd_n (by omega), su_ne (by omega), say_f e3 (by omega) (by omega), say_f e3 (by omega) (by omega), su_ne (by omega), su_row, upd_n (by omega)]
        exact ⟨rfl, rfl⟩
      -- )
      obtain ⟨r5, e5, s5⟩ := say_1 (r := su r4 58 q (nI 3)) (x := 41) (PG_pre rfl s4.2.2.1) (by omega)
      have t5 : m_sayType_L16 (nI (q + 1)) r4 = m_sayType_L16 (nI q) r5 := by
        unfold m_sayType_L16
        refine lp_inl ?_
        show m_sayType_S16 (nI (q + 1)) r4 = _
        unfold m_sayType_S16
        rw [if_neg (nI_nle (by omega) (by omega)), nI_pred, gd_t i1, gd_t i1, gd_t i1, gd_t i1, ltS, kq, z57, z58, if_neg hne, if_pos (by decide), show nI 2 + 1 = nI 3 from rfl, show (41 : Int32) = nI 41 from rfl, e5, bd_s]
      refine ⟨r5, (t1.trans e2).trans ((t3.trans e4).trans t5), ?_, fun i hi => ?_⟩
      · rw [txT_s (by omega) d2 d3 (by omega) (by omega)]
        have S5 : S0 r4 r5 (L + 1 + (txT c0 f a).length + 1 + (txT c0 f b).length) [41] := S0_pre (fun p hp => su_ne (by omega)) s5
        have A := (S0_pre (fun p hp => su_ne (by omega)) s1 : S0 r r1 L [40]).tr ((S0_pre (fun p hp => by rw [su_ne (by omega), su_ne (by omega)]) s2 : S0 r1 r2 (L + 1) (txT c0 f a)).tr ((S0_pre (fun p hp => su_ne (by omega)) s3 : S0 r2 r3 (L + 1 + (txT c0 f a).length) [62]).tr ((S0_pre (fun p hp => by rw [su_ne (by omega), su_ne (by omega)]) s4 : S0 r3 r4 (L + 1 + (txT c0 f a).length + 1) (txT c0 f b)).tr S5)))
        exact A
      · rw [say_f e5 (by omega) (by omega), say_f e5 (by omega) (by omega), su_ne (by omega), su_row, upd_n (by omega), (low4 i hi).1, (low4 i hi).2]
        exact low2 i hi
theorem say_type {c0 r0 : jS} {T y L : Nat} {r : jS} (hT : Ty c0 r0 T) (hy : y < T) (h31 : r 31 = r0 31) (h32 : r 32 = r0 32) (hP : PG r L) : ∃ r', m_sayType r (nI y) = some ((), r') ∧ S0 r r' L (txT c0 41 y) := by
  have h40 := hT.2.2.2.1
  obtain ⟨r', e, s, -⟩ := sy_type hT 41 y 0 L (su (su r 57 0 (nI y)) 58 0 0) (by omega) hy (by omega) h31 h32 (by rw [su_ne (by omega), su_row, upd_s]) (by rw [su_row, upd_s]) (PG_pre rfl hP)
  refine ⟨r', ?_, S0_pre (fun p hp => by rw [su_ne (by omega), su_ne (by omega)]) s⟩
  unfold m_sayType
  rw [gd_t (by decide), ltS, gd_t (by decide), ltS]
  refine Eq.trans e ?_
  unfold m_sayType_L16
  refine lp_inr ?_
  show m_sayType_S16 (nI 0) r' = _
  unfold m_sayType_S16
  rw [if_pos (by decide)]
