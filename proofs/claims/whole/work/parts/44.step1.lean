/-- the frame of a step: the pile is free, the way below m stays -/
def fW (m : Nat) (r r' : jS) : Prop := (∀ q, q ≠ 30 → q ≠ 53 → q ≠ 54 → q < 35 ∨ 49 < q → r' q = r q) ∧ (∀ k, k ≠ 5 → k ≠ 14 → k ≠ 22 → r' 30 k = r 30 k) ∧ ∀ i, i < m → r' 53 i = r 53 i ∧ r' 54 i = r 54 i
theorem fW.rf {m : Nat} {r : jS} : fW m r r := ⟨fun _ _ _ _ _ => rfl, fun _ _ _ _ => rfl, fun _ _ => ⟨rfl, rfl⟩⟩
theorem fW.tr {m m' : Nat} {a b c : jS} (hm : m ≤ m') (h : fW m a b) (h' : fW m' b c) : fW m a c :=
  ⟨fun q h1 h2 h3 h4 => (h'.1 q h1 h2 h3 h4).trans (h.1 q h1 h2 h3 h4), fun k h1 h2 h3 => (h'.2.1 k h1 h2 h3).trans (h.2.1 k h1 h2 h3), fun i hi => ⟨(h'.2.2 i (by omega)).1.trans (h.2.2 i hi).1, (h'.2.2 i (by omega)).2.trans (h.2.2 i hi).2⟩⟩
theorem fW_S {m p : Nat} {r r' : jS} (h : fS p r r') : fW m r r' := ⟨fun q h1 _ _ h4 => h.1 q h1 h4, h.2.1, fun i _ => by rw [h.1 53 (by omega) (by omega), h.1 54 (by omega) (by omega)]; exact ⟨rfl, rfl⟩⟩
theorem fW_M {m : Nat} {r r' : jS} (h : fM r r') : fW m r r' := fW_S (p := 0) (fS_M h)
theorem fW_5 {m : Nat} {r r' : jS} {v : Int32} (h : fW m r r') : fW m r (su r' 30 5 v) := by
  refine ⟨fun q h1 h2 h3 h4 => by rw [su_ne h1]; exact h.1 q h1 h2 h3 h4, fun k h1 h2 h3 => by rw [su_row, upd_n h1]; exact h.2.1 k h1 h2 h3, fun i hi => by rw [su_ne (by omega), su_ne (by omega)]; exact h.2.2 i hi⟩
theorem fW_way {m : Nat} {r : jS} {a b : Int32} : fW m r (su (su r 53 m a) 54 m b) := by
  refine ⟨fun q h1 h2 h3 h4 => by rw [su_ne h3, su_ne h2], fun k h1 h2 h3 => by rw [su_ne (by omega), su_ne (by omega)], fun i hi => ?_⟩
  rw [su_ne (by omega), su_row, upd_n (by omega), su_row, upd_n (by omega)]
  exact ⟨rfl, rfl⟩
theorem Ty_W {m : Nat} {c c' r r' : jS} {T : Nat} (hx : fX c c') (hm : fW m r r') (h : Ty c r T) : Ty c' r' T := by
  unfold Ty lnN at *
  rw [hx 1 (by omega), hx 2 (by omega), hx 3 (by omega), hx 4 (by omega), hm.2.1 0 (by omega) (by omega) (by omega), hm.1 31 (by omega) (by omega) (by omega) (by omega), hm.1 32 (by omega) (by omega) (by omega) (by omega), hm.1 33 (by omega) (by omega) (by omega) (by omega)]
  exact h
theorem Oth_W {m : Nat} {c c' r r' : jS} {T : Nat} (hx : fX c c') (hm : fW m r r') (h : Oth c r T) : Oth c' r' T := by
  unfold Oth at *
  rw [hx 0 (by omega), hx 17 (by omega), hx 18 (by omega), hx 26 (by omega), hx 27 (by omega), hx 28 (by omega), hx 29 (by omega), hm.1 34 (by omega) (by omega) (by omega) (by omega), hm.1 55 (by omega) (by omega) (by omega) (by omega), hm.1 59 (by omega) (by omega) (by omega) (by omega), hm.2.1 24 (by omega) (by omega) (by omega), hm.2.1 25 (by omega) (by omega) (by omega), hm.2.1 31 (by omega) (by omega) (by omega), hm.2.1 33 (by omega) (by omega) (by omega), hm.2.1 40 (by omega) (by omega) (by omega)]
  exact h
/-- other parts: made anew on both sides -/
theorem WP {c r : jS} {T n t k : Nat} {lx ty oa ob od oa' ob' od' : Option Nat} (hT : Ty c r T) (hM : Tm c r T n) (ht : t < n) (hN : Nod c r T t k lx ty oa ob od) (hk0 : k ≠ 0) (hs : shp T n k lx ty oa' ob' od') (hne : ¬ (oa' = oa ∧ ob' = ob ∧ od' = od)) :
    ∃ (v : Int32) (c' r' : jS), xTerms_withParts c (nI t) (pv lx) (pv oa') (pv ob') (pv od') = some (v, c') ∧ m_make r (nI k) 0 (pv lx) (pv ty) (pv oa') (pv ob') (pv od') = some (v, r') ∧ fX c c' ∧ fM r r' ∧ AgX n c c' ∧ AgM n r r' ∧
      ((v = -3 ∧ c' = c ∧ Tm c' r' T n) ∨ (v = nI n ∧ n < 400 ∧ Tm c' r' T (n + 1) ∧ Nod c' r' T n k lx ty oa' ob' od')) := by
  have h4 := hM.2.2.1
  obtain ⟨hs0, ⟨c6, c8, c9, c10, c11, c12, -⟩, -⟩ := id hN
  obtain ⟨hk7, -, l1, l2, l3, l4, l5⟩ := id hs0
  obtain ⟨-, -, m1, m2, m3, m4, m5⟩ := id hs
  have up : ∀ {o : Option Nat}, lo t o → lo n o := fun ho p hp => Nat.lt_trans (ho p hp) ht
  obtain ⟨v, c', r', e1, e2, fx, fm, ax, am, h⟩ := MK hT hM hk0 hs
  have ex : xTerms_withParts_P40 (nI t) (pv lx) (pv oa') (pv ob') (pv od') c = some (v, c') := by
    unfold xTerms_withParts_P40
    rw [x_kindOf_t hM.1 h4 ht, ob_s, c6, x_typeOf_t hM.1 h4 ht, ob_s, c9, e1, bd_s]
  refine ⟨v, c', r', ?_, e2, fx, fm, ax, am, h⟩
  unfold xTerms_withParts
  rw [x_letterOf_t hM.1 h4 ht, ob_s, c8, if_pos rfl, x_firstOf_t hM.1 h4 ht, ob_s, c10, x_secondOf_t hM.1 h4 ht, ob_s, c11, x_thirdOf_t hM.1 h4 ht, ob_s, c12, ex]
  by_cases q2 : pv oa' = pv oa
  · rw [if_pos q2]
    by_cases q3 : pv ob' = pv ob
    · rw [if_pos q3, if_neg (fun q4 => hne ⟨(pv_inj (by omega) m3 (up l3)).mp q2, (pv_inj (by omega) m4 (up l4)).mp q3, (pv_inj (by omega) m5 (up l5)).mp q4⟩)]
    · rw [if_neg q3]
  · rw [if_neg q2]
theorem L73_neg {n0 m v : Int32} {r : jS} (hv : v < 0) : m_stepOf_L73 n0 m v r = some (v, su r 30 5 n0) := by
  have h0 : ¬ 0 ≤ v := by
    rw [Int32.le_iff_toInt_le]
    rw [Int32.lt_iff_toInt_lt] at hv
    omega
  unfold m_stepOf_L73
  refine lp_inr ?_
  show m_stepOf_S73 n0 m v r = _
  unfold m_stepOf_S73 m_stepOf_P174_73
  by_cases hm : m ≤ 0
  · rw [if_pos hm, if_neg h0, ltS]
  · rw [if_neg hm, if_pos hv, if_neg h0, ltS]
theorem L73_0 {n0 : Int32} {t : Nat} {r : jS} (ht : t < 2 ^ 31) : m_stepOf_L73 n0 (nI 0) (nI t) r = some (nI t, su r 30 5 (r 30 5)) := by
  unfold m_stepOf_L73
  refine lp_inr ?_
  show m_stepOf_S73 n0 (nI 0) (nI t) r = _
  unfold m_stepOf_S73 m_stepOf_P174_73
  rw [if_pos (by decide), if_pos (nI_pos' ht), ltS]
theorem L73_s {c r r' : jS} {T n t m j t1 : Nat} {n0 v A B : Int32} (hM : Tm c r T n) (ht : t < n) (hm : m ≤ 40) (ht1 : t1 < 2 ^ 31) (h53 : r 53 m = nI t) (h54 : r 54 m = nI j) (hj : (j = 0 ∧ A = nI t1 ∧ B = r 39 (3 * t + 1)) ∨ (j = 1 ∧ A = r 39 (3 * t) ∧ B = nI t1)) (hmk : m_make r (r 35 t) 0 (r 37 t) (r 38 t) A B (r 39 (3 * t + 2)) = some (v, r')) :
    m_stepOf_L73 n0 (nI (m + 1)) (nI t1) r = m_stepOf_L73 n0 (nI m) v r' := by
  have h4 := hM.2.2.1
  have p0 : m_part r (nI t) 0 = some (r 39 (3 * t)) := m_part_t (k := 0) hM ht (by omega)
  have p1 : m_part r (nI t) 1 = some (r 39 (3 * t + 1)) := m_part_t (k := 1) hM ht (by omega)
  have p2 : m_part r (nI t) 2 = some (r 39 (3 * t + 2)) := m_part_t (k := 2) hM ht (by omega)
  unfold m_stepOf_L73
  refine lp_inl ?_
  show m_stepOf_S73 n0 (nI (m + 1)) (nI t1) r = _
  unfold m_stepOf_S73
  rw [if_neg (nI_nle (by omega) (by omega)), if_neg (nI_pos ht1), nI_pred, gd_t (ix_nI (by omega) (by decide)), gd_t (ix_nI (by omega) (by decide)), nI_clamp (show m < 2 ^ 31 by omega), h53, gd_t (ix_nI (by omega) (by decide)), gd_t (ix_nI (by omega) (by decide)), gd_t (ix_nI (by omega) (by decide)), nI_clamp (show t < 2 ^ 31 by omega), h54]
  unfold m_stepOf_P141_73
  rcases hj with ⟨rfl, rfl, rfl⟩ | ⟨rfl, rfl, rfl⟩
  · rw [if_pos (by decide), if_neg (by decide), p1, ob_s, p2, ob_s, hmk, bd_s]
  · rw [if_neg (by decide), p0, ob_s, if_pos (by decide), p2, ob_s, hmk, bd_s]
/-- what a step leaves: the class's answer v, c' against the loop L -/
def SR (T n t m : Nat) (n0 : Int32) (c r : jS) (L : Option (Int32 × jS)) (v : Int32) (c' : jS) : Prop :=
  ∃ (r' : jS) (n' : Nat), L = m_stepOf_L73 n0 (nI m) v r' ∧ fX c c' ∧ fW m r r' ∧ n ≤ n' ∧ n' ≤ 400 ∧ c' 5 12 = nI n' ∧ AgX n c c' ∧ AgM n r r' ∧ (v = -3 ∨ (v = -2 ∧ c' = c) ∨ ∃ t', t' < n' ∧ v = nI t' ∧ Tm c' r' T n' ∧ (t' < t ∨ n ≤ t'))
def StpS (T d : Nat) : Prop := ∀ (f t m n : Nat) (c r : jS) (n0 : Int32), Ty c r T → Tm c r T n → t < n → dpN c t ≤ d → 3 * d + 1 ≤ f → m + d ≤ 41 →
  ∃ (k v : Int32) (c' : jS), m_partToStep r (nI t) = some k ∧ xStepper_stepOf f c (nI t) = some (v, c') ∧ SR T n t m n0 c r (m_stepOf_L18 n0 (nI m) (nI t) k r) v c'
theorem step_in {T d : Nat} (ih : StpS T d) {f n t k j p m : Nat} {c r : jS} {oa ob od : Option Nat} {n0 : Int32} (hT : Ty c r T) (hM : Tm c r T n) (ht : t < n) (hN : Nod c r T t k none none oa ob od) (hk : k ≠ 0) (hj : (j = 0 ∧ oa = some p) ∨ (j = 1 ∧ ob = some p)) (hd : dpN c p ≤ d) (hf : 3 * d + 1 ≤ f) (hm : m + 1 + d ≤ 41) :
    ∃ (v1 v : Int32) (c1 c' : jS), xStepper_stepOf f c (nI p) = some (v1, c1) ∧ SR T n t m n0 c r (m_stepOf_L18 n0 (nI m) (nI t) (nI j) r) v c' ∧
      ((v1 < 0 ∧ v = v1 ∧ c' = c1) ∨ ∃ n1, 0 ≤ v1 ∧ n ≤ n1 ∧ n1 ≤ 400 ∧ c1 5 12 = nI n1 ∧ AgX n c c1 ∧ xTerms_withParts c1 (nI t) (-2) (if j = 0 then v1 else pv oa) (if j = 1 then v1 else pv ob) (pv od) = some (v, c')) := by
  have h4 := hM.2.2.1
  obtain ⟨hs, ⟨c6, c8, c9, c10, c11, c12, -⟩, -⟩ := id hN
  obtain ⟨hk7, hsk, l1, l2, l3, l4, l5⟩ := id hs
  obtain ⟨⟨r35, r36, r37, r38, r39, r39b, r39c, r40, r41⟩, -⟩ := (hM.2.2.2 t ht).1
  have hpt : p < t := by
    rcases hj with ⟨-, h⟩ | ⟨-, h⟩
    · exact l3 p h
    · exact l4 p h
  have hj3 : j < 3 := by omega
  have hp39 : r 39 (3 * t + j) = nI p := by
    rcases hj with ⟨rfl, h⟩ | ⟨rfl, h⟩
    · rw [Nat.add_zero, r39, c10, h]; rfl
    · rw [r39b, c11, h]; rfl
  have fw0 : fW m r (su (su r 53 m (nI t)) 54 m (nI j)) := fW_way
  have am0 : AgM n r (su (su r 53 m (nI t)) 54 m (nI j)) := AgM_su (AgM_su AgM.rf (by omega)) (by omega)
  have hM0 : Tm c (su (su r 53 m (nI t)) 54 m (nI j)) T n := Tm_r am0 rfl hM
  obtain ⟨k1, v1, c1, e1, e2, r1, n1, el, fx, fw, hn, hn4, h5, ax, am, h⟩ := ih f p (m + 1) n c _ n0 (Ty_W fX.rf fw0 hT) hM0 (by omega) hd hf (by omega)
  have el0 : m_stepOf_L18 n0 (nI m) (nI t) (nI j) r = m_stepOf_L73 n0 (nI (m + 1)) v1 r1 := by
    refine Eq.trans ?_ el
    unfold m_stepOf_L18
    refine lp_inl ?_
    show m_stepOf_S18 n0 (nI m) (nI t) (nI j) r = _
    unfold m_stepOf_S18
    rw [if_neg (nI_ne (by omega) (by decide)), gd_t (ix_nI (by omega) (by decide)), ltS, gd_t (ix_nI (by omega) (by decide)), ltS, nI_clamp (show m < 2 ^ 31 by omega), m_part_t hM0 ht hj3, ob_s, show (su (su r 53 m (nI t)) 54 m (nI j)) 39 (3 * t + j) = nI p from hp39, e1, ob_s, nI_1]
  have F := fw0.tr (Nat.le_succ m) fw
  have A := am0.tr (Nat.le_refl n) am
  by_cases hv : v1 < 0
  · refine ⟨v1, v1, c1, c1, e2, ⟨r1, n1, ?_, fx, F, hn, hn4, h5, ax, A, ?_⟩, Or.inl ⟨hv, rfl, rfl⟩⟩
    · rw [el0, L73_neg hv, L73_neg hv]
    · rcases h with h | h | ⟨t', h1, h2, -⟩
      · exact Or.inl h
      · exact Or.inr (Or.inl h)
      · rw [h2] at hv
        exact absurd hv (nI_pos (by omega))
  · obtain ⟨t', ht', rfl, hM1, hlt⟩ : ∃ t', t' < n1 ∧ v1 = nI t' ∧ Tm c1 r1 T n1 ∧ (t' < p ∨ n ≤ t') := by
      rcases h with rfl | ⟨rfl, -⟩ | h
      · exact absurd (by decide) hv
      · exact absurd (by decide) hv
      · exact h
    have hN1 := Nod_keep ax A fx ht hN
    have hT1 := Ty_W fx F hT
    have g53 : r1 53 m = nI t := by
      rw [(fw.2.2 m (by omega)).1, su_ne (by omega), su_row, upd_s]
    have g54 : r1 54 m = nI j := by
      rw [(fw.2.2 m (by omega)).2, su_row, upd_s]
    have a35 : r1 35 t = nI k := by rw [A.1 35 (by omega) (by omega) (by omega) t ht, r35, c6]
    have a37 : r1 37 t = pv none := by rw [A.1 37 (by omega) (by omega) (by omega) t ht, r37, c8]
    have a38 : r1 38 t = pv none := by rw [A.1 38 (by omega) (by omega) (by omega) t ht, r38, c9]
    have a0 : r1 39 (3 * t) = pv oa := by rw [A.2.1 _ (by omega), r39, c10]
    have a1 : r1 39 (3 * t + 1) = pv ob := by rw [A.2.1 _ (by omega), r39b, c11]
    have a2 : r1 39 (3 * t + 2) = pv od := by rw [A.2.1 _ (by omega), r39c, c12]
    have up : ∀ {o : Option Nat}, lo t o → lo n1 o := fun ho q hq => Nat.lt_of_lt_of_le (Nat.lt_trans (ho q hq) ht) hn
    have hne : t' ≠ p := by omega
    have W : ∃ (v : Int32) (c' r' : jS), xTerms_withParts c1 (nI t) (-2) (if j = 0 then nI t' else pv oa) (if j = 1 then nI t' else pv ob) (pv od) = some (v, c') ∧ m_stepOf_L73 n0 (nI (m + 1)) (nI t') r1 = m_stepOf_L73 n0 (nI m) v r' ∧ fX c1 c' ∧ fM r1 r' ∧ AgX n1 c1 c' ∧ AgM n1 r1 r' ∧ ((v = -3 ∧ c' 5 12 = nI n1) ∨ (v = nI n1 ∧ n1 < 400 ∧ Tm c' r' T (n1 + 1))) := by
      rcases hj with ⟨rfl, rfl⟩ | ⟨rfl, rfl⟩
      · have hs' : shp T n1 k none none (some t') ob od := ⟨hk7, hsk, lo_n, lo_n, lo_s ht', up l4, up l5⟩
        obtain ⟨v, c', r', w1, w2, w3, w4, w5, w6, w7⟩ := WP hT1 hM1 (by omega) hN1 hk hs' (fun q => hne (by have := q.1; simpa using this))
        refine ⟨v, c', r', w1, L73_s hM1 (by omega) (by omega) (by omega) g53 g54 (Or.inl ⟨rfl, rfl, rfl⟩) ?_, w3, w4, w5, w6, ?_⟩
        · rw [a35, a37, a38, a1, a2]; exact w2
        · rcases w7 with ⟨q1, rfl, -⟩ | ⟨q1, q2, q3, -⟩
          · exact Or.inl ⟨q1, h5⟩
          · exact Or.inr ⟨q1, q2, q3⟩
      · have hs' : shp T n1 k none none oa (some t') od := ⟨hk7, hsk, lo_n, lo_n, up l3, lo_s ht', up l5⟩
        obtain ⟨v, c', r', w1, w2, w3, w4, w5, w6, w7⟩ := WP hT1 hM1 (by omega) hN1 hk hs' (fun q => hne (by have := q.2.1; simpa using this))
        refine ⟨v, c', r', w1, L73_s hM1 (by omega) (by omega) (by omega) g53 g54 (Or.inr ⟨rfl, rfl, rfl⟩) ?_, w3, w4, w5, w6, ?_⟩
        · rw [a35, a37, a38, a0, a2]; exact w2
        · rcases w7 with ⟨q1, rfl, -⟩ | ⟨q1, q2, q3, -⟩
          · exact Or.inl ⟨q1, h5⟩
          · exact Or.inr ⟨q1, q2, q3⟩
    obtain ⟨v, c', r', w1, w2, w3, w4, w5, w6, w7⟩ := W
    have FF := F.tr (Nat.le_refl m) (fW_M w4)
    refine ⟨nI t', v, c1, c', e2, ?_, Or.inr ⟨n1, nI_pos' (by omega), hn, hn4, h5, ax, w1⟩⟩
    rcases w7 with ⟨rfl, q⟩ | ⟨rfl, q1, q2⟩
    · exact ⟨r', n1, el0.trans w2, fx.tr w3, FF, hn, hn4, q, ax.tr hn w5, A.tr hn w6, Or.inl rfl⟩
    · exact ⟨r', n1 + 1, el0.trans w2, fx.tr w3, FF, by omega, by omega, q2.1, ax.tr hn w5, A.tr hn w6, Or.inr (Or.inr ⟨n1, by omega, rfl, q2, Or.inr hn⟩)⟩
