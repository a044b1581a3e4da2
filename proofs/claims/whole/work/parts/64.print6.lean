theorem say_at {c r : jS} {T n t k s L : Nat} {lx ty oa ob' od : Option Nat} (hT : Ty c r T) (hM : Tm c r T n) (ht : t < n) (hN : Nod c r T t k lx ty oa ob' od) (hs : s ≤ kP k) (hP : PG r L) : ∃ r', m_sayAt r (nI t) (nI s) = some ((), r') ∧ S0 r r' L (emT c t k s) := by
  have h4 := hM.2.2.1
  have h40 := hT.2.2.2.1
  have i4 : ix (nI t) 400 = true := ix_nI (by omega) (by decide)
  have kt : (nI t).toNatClampNeg = t := nI_clamp (by omega)
  obtain ⟨r35, r36, r37, r38, -⟩ := (hM.2.2.2 t ht).1.1
  obtain ⟨hsh, ⟨c6, c8, c9, c10, c11, c12, -⟩, -⟩ := hN
  unfold m_sayAt
  rw [gd_t i4, kt, r35, c6]
  rcases shp_cases hsh with ⟨rfl, rfl, rfl, rfl, rfl, rfl⟩ | ⟨rfl, x, hx, rfl, rfl, rfl, rfl, rfl⟩ | ⟨rfl, x, y, a, hx, hy, ha, rfl, rfl, rfl, rfl, rfl⟩ | ⟨rfl, a, b, ha, hb, rfl, rfl, rfl, rfl, rfl⟩ | ⟨rfl, x, a, b, hx, ha, hb, rfl, rfl, rfl, rfl, rfl⟩ | ⟨rfl, a, b, ha, hb, rfl, rfl, rfl, rfl, rfl⟩ | ⟨rfl, a, b, e, ha, hb, he, rfl, rfl, rfl, rfl, rfl⟩
  · obtain ⟨r1, e1, s1⟩ := say_num (c 7 t) hP
    refine ⟨r1, ?_, s1⟩
    rw [if_pos (by decide), gd_t i4, r36, e1, bd_s]
  · obtain ⟨r1, e1, s1⟩ := say_1 (x := 97 + x) hP (by omega)
    refine ⟨r1, ?_, ?_⟩
    · rw [if_neg (by decide), if_pos (by decide), gd_t i4, r37, c8]
      show bd (m_say r ((97 : Int32) + nI x)) _ = _
      rw [show (97 : Int32) = nI 97 from rfl, nI_add, e1, bd_s]
    · show S0 r r1 L [97 + chN c t]
      rw [chN_k c8 hx]; exact s1
  · rw [if_neg (by decide), if_neg (by decide), if_pos (by decide)]
    rcases (show s = 0 ∨ s = 1 from (by have : kP 2 = 1 := rfl; omega)) with rfl | rfl
    · obtain ⟨r1, e1, s1⟩ := say_1 (x := 92) hP (by omega)
      obtain ⟨r2, e2, s2⟩ := say_1 (x := 97 + x) s1.2.2.1 (by omega)
      have S2 := s1.tr s2
      obtain ⟨r3, e3, s3⟩ := say_1 (x := 58) s2.2.2.1 (by omega)
      have S3 := S2.tr s3
      obtain ⟨r4, e4, s4⟩ := say_type (r := r3) hT hy (S3.1 31 (by omega) (by omega)) (S3.1 32 (by omega) (by omega)) s3.2.2.1
      obtain ⟨r5, e5, s5⟩ := say_1 (x := 46) s4.2.2.1 (by omega)
      refine ⟨r5, ?_, ?_⟩
      · rw [if_pos (by decide), show (92 : Int32) = nI 92 from rfl, e1, bd_s, gd_t i4, s1.1 37 (by omega) (by omega), r37, c8]
        show bd (m_say r1 ((97 : Int32) + nI x)) _ = _
        rw [show (97 : Int32) = nI 97 from rfl, nI_add, e2, bd_s, show (58 : Int32) = nI 58 from rfl, e3, bd_s, gd_t i4, S3.1 38 (by omega) (by omega), r38, c9]
        show bd (m_sayType r3 (nI y)) _ = _
        rw [e4, bd_s, show (46 : Int32) = nI 46 from rfl, e5, bd_s]
      · show S0 r r5 L ([92] ++ ([97 + chN c t] ++ ([58] ++ (txT c 41 (tyN c t) ++ [46]))))
        rw [chN_k c8 hx, tyN_k c9 (by omega)]
        exact s1.tr (s2.tr (s3.tr (s4.tr s5)))
    · refine ⟨r, ?_, S0_nil hP⟩
      unfold m_sayAt_P98 m_sayAt_P135 m_sayAt_P154
      rw [if_neg (by decide), if_neg (by decide), if_neg (by decide), if_neg (by decide), if_neg (by decide), if_neg (by decide)]
  · rw [if_neg (by decide), if_neg (by decide), if_neg (by decide)]
    unfold m_sayAt_P98 m_sayAt_P135 m_sayAt_P154 m_sayAt_P164
    rw [if_neg (by decide), if_neg (by decide), if_pos (by decide)]
    rcases (show s = 0 ∨ s = 1 ∨ s = 2 from (by have : kP 3 = 2 := rfl; omega)) with rfl | rfl | rfl
    · obtain ⟨r1, e1, s1⟩ := say_1 (x := 40) hP (by omega)
      exact ⟨r1, by rw [if_pos (by decide), show (40 : Int32) = nI 40 from rfl, e1, bd_s], s1⟩
    · obtain ⟨r1, e1, s1⟩ := say_1 (x := 32) hP (by omega)
      exact ⟨r1, by rw [if_neg (by decide), if_neg (by decide), if_pos (by decide), show (32 : Int32) = nI 32 from rfl, e1, bd_s], s1⟩
    · obtain ⟨r1, e1, s1⟩ := say_1 (x := 41) hP (by omega)
      exact ⟨r1, by rw [if_neg (by decide), if_pos (by decide), show (41 : Int32) = nI 41 from rfl, e1, bd_s], s1⟩
  · rw [if_neg (by decide), if_neg (by decide), if_neg (by decide)]
    rcases (show s = 0 ∨ s = 1 ∨ s = 2 from (by have : kP 4 = 2 := rfl; omega)) with rfl | rfl | rfl
    · obtain ⟨r1, e1, s1⟩ := say_1 (x := 91) hP (by omega)
      obtain ⟨r2, e2, s2⟩ := say_1 (x := 97 + x) s1.2.2.1 (by omega)
      obtain ⟨r3, e3, s3⟩ := say_1 (x := 61) s2.2.2.1 (by omega)
      refine ⟨r3, ?_, ?_⟩
      · unfold m_sayAt_P98
        rw [if_pos (by decide), if_pos (by decide), show (91 : Int32) = nI 91 from rfl, e1, bd_s, gd_t i4, kt, s1.1 37 (by omega) (by omega), r37, c8]
        show bd (m_say r1 ((97 : Int32) + nI x)) _ = _
        rw [show (97 : Int32) = nI 97 from rfl, nI_add, e2, bd_s, show (61 : Int32) = nI 61 from rfl, e3, bd_s]
      · show S0 r r3 L ([91] ++ ([97 + chN c t] ++ [61]))
        rw [chN_k c8 hx]
        exact s1.tr (s2.tr s3)
    · obtain ⟨r1, e1, s1⟩ := say_1 (x := 93) hP (by omega)
      refine ⟨r1, ?_, s1⟩
      unfold m_sayAt_P98 m_sayAt_P135
      rw [if_pos (by decide), if_neg (by decide), if_pos (by decide), if_pos (by decide), show (93 : Int32) = nI 93 from rfl, e1, bd_s]
    · refine ⟨r, ?_, S0_nil hP⟩
      unfold m_sayAt_P98 m_sayAt_P135 m_sayAt_P154
      rw [if_pos (by decide), if_neg (by decide), if_pos (by decide), if_neg (by decide), if_neg (by decide), if_neg (by decide), if_neg (by decide)]
  · rw [if_neg (by decide), if_neg (by decide), if_neg (by decide)]
    unfold m_sayAt_P98 m_sayAt_P135 m_sayAt_P154 m_sayAt_P164
    rw [if_neg (by decide), if_neg (by decide), if_neg (by decide), if_pos (by decide)]
    rcases (show s = 0 ∨ s = 1 ∨ s = 2 from (by have : kP 5 = 2 := rfl; omega)) with rfl | rfl | rfl
    · obtain ⟨r1, e1, s1⟩ := say_1 (x := 40) hP (by omega)
      exact ⟨r1, by rw [if_pos (by decide), show (40 : Int32) = nI 40 from rfl, e1, bd_s], s1⟩
    · obtain ⟨r1, e1, s1⟩ := say_1 (x := 43) hP (by omega)
      exact ⟨r1, by rw [if_neg (by decide), if_neg (by decide), if_neg (by decide), show (43 : Int32) = nI 43 from rfl, e1, bd_s], s1⟩
    · obtain ⟨r1, e1, s1⟩ := say_1 (x := 41) hP (by omega)
      exact ⟨r1, by rw [if_neg (by decide), if_pos (by decide), show (41 : Int32) = nI 41 from rfl, e1, bd_s], s1⟩
  · rw [if_neg (by decide), if_neg (by decide), if_neg (by decide)]
    unfold m_sayAt_P98 m_sayAt_P135 m_sayAt_P154
    rw [if_neg (by decide), if_neg (by decide), if_neg (by decide), if_neg (by decide), if_pos (by decide)]
    rcases (show s = 0 ∨ s = 1 ∨ s = 2 ∨ s = 3 from (by have : kP 6 = 3 := rfl; omega)) with rfl | rfl | rfl | rfl
    · obtain ⟨r1, e1, s1⟩ := say_1 (x := 123) hP (by omega)
      exact ⟨r1, by rw [if_pos (by decide), show (123 : Int32) = nI 123 from rfl, e1, bd_s], s1⟩
    · obtain ⟨r1, e1, s1⟩ := say_1 (x := 63) hP (by omega)
      exact ⟨r1, by rw [if_neg (by decide), if_pos (by decide), show (63 : Int32) = nI 63 from rfl, e1, bd_s], s1⟩
    · obtain ⟨r1, e1, s1⟩ := say_1 (x := 58) hP (by omega)
      exact ⟨r1, by rw [if_neg (by decide), if_neg (by decide), if_pos (by decide), show (58 : Int32) = nI 58 from rfl, e1, bd_s], s1⟩
    · obtain ⟨r1, e1, s1⟩ := say_1 (x := 125) hP (by omega)
      exact ⟨r1, by rw [if_neg (by decide), if_neg (by decide), if_neg (by decide), show (125 : Int32) = nI 125 from rfl, e1, bd_s], s1⟩
/-- the pile's frame -/
def SPF (p : Nat) (r r' : jS) : Prop := (∀ q, q ≠ 30 → q < 43 ∨ 47 < q → r' q = r q) ∧ (∀ k, k ≠ 14 → r' 30 k = r 30 k) ∧ (∀ q, 43 ≤ q → q ≤ 47 → ∀ i, i < p → r' q i = r q i)
theorem SPF.rf {p : Nat} {r : jS} : SPF p r r := ⟨fun _ _ _ => rfl, fun _ _ => rfl, fun _ _ _ _ _ => rfl⟩
theorem SPF_su {p q i : Nat} {r r' : jS} {v : Int32} (h : SPF p r r') (h1 : 43 ≤ q) (h2 : q ≤ 47) (hi : p ≤ i) : SPF p r (su r' q i v) := by
  refine ⟨fun q' a b => by rw [su_ne (by omega)]; exact h.1 q' a b, fun k a => by rw [su_ne (by omega)]; exact h.2.1 k a, fun q' a b j hj => ?_⟩
  by_cases e : q' = q
  · subst e; rw [su_row, upd_n (by omega)]; exact h.2.2 q' a b j hj
  · rw [su_ne e]; exact h.2.2 q' a b j hj
theorem SPF_14 {p : Nat} {r r' : jS} {v : Int32} (h : SPF p r r') : SPF p r (su r' 30 14 v) :=
  ⟨fun q' a b => by rw [su_ne a]; exact h.1 q' a b, fun k a => by rw [su_row, upd_n a]; exact h.2.1 k a, fun q' a b j hj => by rw [su_ne (by omega)]; exact h.2.2 q' a b j hj⟩
theorem SPF_psh {p p' : Nat} {r r' : jS} {v : Int32} (h : SPF p r r') (hp : p ≤ p') : SPF p r (psh r' p' v) :=
  SPF_14 (SPF_su (SPF_su (SPF_su (SPF_su (SPF_su h (by omega) (by omega) hp) (by omega) (by omega) hp) (by omega) (by omega) hp) (by omega) (by omega) hp) (by omega) (by omega) hp)
def SP (p : Nat) (r r' : jS) (L : Nat) (l : List Nat) : Prop := (∀ q, q ≠ 30 → q < 43 ∨ (47 < q ∧ q < 56) ∨ 58 < q → r' q = r q) ∧ (∀ k, k ≠ 14 → k ≠ 35 → k ≠ 36 → r' 30 k = r 30 k) ∧ (∀ q, 43 ≤ q → q ≤ 47 → ∀ i, i < p → r' q i = r q i) ∧ PG r' (L + l.length) ∧ (∀ i, i < L → r' 56 i = r 56 i) ∧ ∀ (i x : Nat), l[i]? = some x → L + i < 4000 → r' 56 (L + i) = nI x
theorem SP_S0 {p : Nat} {r r' : jS} {L : Nat} {l : List Nat} (h : S0 r r' L l) : SP p r r' L l := by
  obtain ⟨a1, a2, a3, a4, a5⟩ := h
  exact ⟨fun q h1 h2 => a1 q h1 (by omega), fun k h1 h2 h3 => a2 k h2 h3, fun q h1 h2 i hi => by rw [a1 q (by omega) (by omega)], a3, a4, a5⟩
theorem SP.tr {p p' : Nat} {c c1 c2 : jS} {L : Nat} {l1 l2 : List Nat} (hp : p ≤ p') (h : SP p c c1 L l1) (h' : SP p' c1 c2 (L + l1.length) l2) : SP p c c2 L (l1 ++ l2) := by
  obtain ⟨a1, a2, a6, a3, a4, a5⟩ := h
  obtain ⟨b1, b2, b6, b3, b4, b5⟩ := h'
  refine ⟨fun p h1 h2 => (b1 p h1 h2).trans (a1 p h1 h2), fun k h1 h2 h3 => (b2 k h1 h2 h3).trans (a2 k h1 h2 h3), fun q h1 h2 i hi => (b6 q h1 h2 i (by omega)).trans (a6 q h1 h2 i hi), ?_, fun i hi => (b4 i (by omega)).trans (a4 i hi), ?_⟩
  · rw [List.length_append, ← Nat.add_assoc]; exact b3
  · intro i x hx hi4
    rw [List.getElem?_append] at hx
    by_cases hi : i < l1.length
    · rw [if_pos hi] at hx
      rw [b4 _ (by omega)]
      exact a5 i x hx hi4
    · rw [if_neg hi] at hx
      have := b5 (i - l1.length) x hx (by omega)
      rw [show L + l1.length + (i - l1.length) = L + i by omega] at this
      exact this
theorem SP_pre {p p' : Nat} {r r0 r' : jS} {L : Nat} {l : List Nat} (hp : p ≤ p') (h : SPF p r r0) (s : SP p' r0 r' L l) : SP p r r' L l := by
  obtain ⟨b1, b2, b6, b3, b4, b5⟩ := s
  exact ⟨fun q h1 h2 => (b1 q h1 h2).trans (h.1 q h1 (by omega)), fun k h1 h2 h3 => (b2 k h1 h2 h3).trans (h.2.1 k h1), fun q h1 h2 i hi => (b6 q h1 h2 i (by omega)).trans (h.2.2 q h1 h2 i hi), b3, fun i hi => (b4 i hi).trans (by rw [h.1 56 (by omega) (by omega)]), b5⟩
theorem SP_post {p : Nat} {r r0 r' : jS} {L : Nat} {l : List Nat} (s : SP p r r0 L l) (h : SPF p r0 r') : SP p r r' L l := by
  obtain ⟨b1, b2, b6, b3, b4, b5⟩ := s
  refine ⟨fun q h1 h2 => (h.1 q h1 (by omega)).trans (b1 q h1 h2), fun k h1 h2 h3 => (h.2.1 k h1).trans (b2 k h1 h2 h3), fun q h1 h2 i hi => (h.2.2 q h1 h2 i hi).trans (b6 q h1 h2 i hi), ?_, fun i hi => by rw [h.1 56 (by omega) (by omega)]; exact b4 i hi, fun i x h1 h2 => by rw [h.1 56 (by omega) (by omega)]; exact b5 i x h1 h2⟩
  unfold PG
  rw [h.2.1 35 (by omega), h.2.1 36 (by omega)]
  exact b3
theorem Tm_SP {p n T L : Nat} {c r r' : jS} {l : List Nat} (s : SP p r r' L l) (hM : Tm c r T n) : Tm c r' T n :=
  Tm_r ⟨fun q h1 h2 h3 t ht => by rw [s.1 q (by omega) (by omega)], fun j hj => by rw [s.1 39 (by omega) (by omega)], fun j hj => by rw [s.1 42 (by omega) (by omega)]⟩ (s.2.1 5 (by omega) (by omega) (by omega)) hM
theorem Ty_SP {p T L : Nat} {c r r' : jS} {l : List Nat} (s : SP p r r' L l) (hT : Ty c r T) : Ty c r' T := by
  unfold Ty at *
  rw [s.1 31 (by omega) (by omega), s.1 32 (by omega) (by omega), s.1 33 (by omega) (by omega), s.2.1 0 (by omega) (by omega) (by omega)]
  exact hT
theorem Tm_SPF {p n T : Nat} {c r r' : jS} (s : SPF p r r') (hM : Tm c r T n) : Tm c r' T n :=
  Tm_r ⟨fun q h1 h2 h3 t ht => by rw [s.1 q (by omega) (by omega)], fun j hj => by rw [s.1 39 (by omega) (by omega)], fun j hj => by rw [s.1 42 (by omega) (by omega)]⟩ (s.2.1 5 (by omega)) hM
theorem Ty_SPF {p T : Nat} {c r r' : jS} (s : SPF p r r') (hT : Ty c r T) : Ty c r' T := by
  unfold Ty at *
  rw [s.1 31 (by omega) (by omega), s.1 32 (by omega) (by omega), s.1 33 (by omega) (by omega), s.2.1 0 (by omega)]
  exact hT
theorem PG_SPF {p L : Nat} {r r' : jS} (s : SPF p r r') (h : PG r L) : PG r' L := by
  unfold PG; rw [s.2.1 35 (by omega), s.2.1 36 (by omega)]; exact h
