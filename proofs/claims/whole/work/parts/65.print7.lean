def E3 (r : jS) (p t s : Nat) : Prop := r 30 14 = nI (p + 1) ∧ r 43 p = nI t ∧ r 44 p = nI s
theorem SP_mono {p p' : Nat} {r r' : jS} {L : Nat} {l : List Nat} (hp : p ≤ p') (s : SP p' r r' L l) : SP p r r' L l := SP_pre hp SPF.rf s
theorem part_ok {c r : jS} {T n t k s : Nat} {lx ty oa ob' od : Option Nat} (hM : Tm c r T n) (ht : t < n) (hN : Nod c r T t k lx ty oa ob' od) (hs : s < kP k) : ∃ q, q < t ∧ c (10 + s) t = nI q ∧ r 39 (3 * t + s) = nI q ∧ dpN c q + 1 ≤ dpN c t := by
  obtain ⟨-, -, -, -, r39, r39b, r39c, -⟩ := (hM.2.2.2 t ht).1.1
  obtain ⟨hsh, ⟨c6, c8, c9, c10, c11, c12, -⟩, ⟨-, hdp⟩, -⟩ := hN
  rcases shp_cases hsh with ⟨rfl, rfl, rfl, rfl, rfl, rfl⟩ | ⟨rfl, x, hx, rfl, rfl, rfl, rfl, rfl⟩ | ⟨rfl, x, y, a, hx, hy, ha, rfl, rfl, rfl, rfl, rfl⟩ | ⟨rfl, a, b, ha, hb, rfl, rfl, rfl, rfl, rfl⟩ | ⟨rfl, x, a, b, hx, ha, hb, rfl, rfl, rfl, rfl, rfl⟩ | ⟨rfl, a, b, ha, hb, rfl, rfl, rfl, rfl, rfl⟩ | ⟨rfl, a, b, e, ha, hb, he, rfl, rfl, rfl, rfl, rfl⟩
  · exact absurd hs (Nat.not_lt_zero s)
  · exact absurd hs (Nat.not_lt_zero s)
  · simp only [oz] at hdp
    obtain rfl : s = 0 := by have : kP 2 = 1 := rfl; omega
    exact ⟨a, ha, c10, r39.trans c10, by omega⟩
  · simp only [oz] at hdp
    rcases (show s = 0 ∨ s = 1 from (by have : kP 3 = 2 := rfl; omega)) with rfl | rfl
    · exact ⟨a, ha, c10, r39.trans c10, by omega⟩
    · exact ⟨b, hb, c11, r39b.trans c11, by omega⟩
  · simp only [oz] at hdp
    rcases (show s = 0 ∨ s = 1 from (by have : kP 4 = 2 := rfl; omega)) with rfl | rfl
    · exact ⟨a, ha, c10, r39.trans c10, by omega⟩
    · exact ⟨b, hb, c11, r39b.trans c11, by omega⟩
  · simp only [oz] at hdp
    rcases (show s = 0 ∨ s = 1 from (by have : kP 5 = 2 := rfl; omega)) with rfl | rfl
    · exact ⟨a, ha, c10, r39.trans c10, by omega⟩
    · exact ⟨b, hb, c11, r39b.trans c11, by omega⟩
  · simp only [oz] at hdp
    rcases (show s = 0 ∨ s = 1 ∨ s = 2 from (by have : kP 6 = 3 := rfl; omega)) with rfl | rfl | rfl
    · exact ⟨a, ha, c10, r39.trans c10, by omega⟩
    · exact ⟨b, hb, c11, r39b.trans c11, by omega⟩
    · exact ⟨e, he, c12, r39c.trans c12, by omega⟩
theorem pr_turn {c r : jS} {T n p t k s L : Nat} {lx ty oa ob' od : Option Nat} (hT : Ty c r T) (hM : Tm c r T n) (ht : t < n) (hN : Nod c r T t k lx ty oa ob' od) (hs : s ≤ kP k) (hp : p < 90) (E : E3 r p t s) (hP : PG r L) :
    ∃ r9, SP p r r9 L (emT c t k s) ∧ E3 r9 p t (s + 1) ∧ m_print_S30 r = (if nI (kP k) ≤ nI s then some (Sum.inl (su r9 30 14 (nI p))) else ob (m_part r9 (nI t) (nI s)) (fun r12 => bd (m_push r9 r12) (fun _ c13 => some (Sum.inl c13)))) := by
  have h4 := hM.2.2.1
  have k7 : k < 7 := hN.1.1
  have hf : SPF p r (su r 44 p (nI (s + 1))) := SPF_su SPF.rf (by omega) (by omega) (Nat.le_refl _)
  obtain ⟨r9, e9, s9⟩ := say_at (Ty_SPF hf hT) (Tm_SPF hf hM) ht (Nod_keep AgX.rf (AgM_su AgM.rf (by omega)) fX.rf ht hN) hs (PG_SPF hf hP)
  have i1 : ix (nI p) 90 = true := ix_nI (by omega) (by decide)
  have s9' : SP p r r9 L (emT c t k s) := SP_pre (Nat.le_refl _) hf (SP_S0 s9)
  have h14 : r9 30 14 = nI (p + 1) := by rw [s9.2.1 14 (by omega) (by omega), su_ne (by omega)]; exact E.1
  have h35 : r9 35 t = nI k := by rw [s9'.1 35 (by omega) (by omega), (hM.2.2.2 t ht).1.1.1]; exact hN.2.1.1
  refine ⟨r9, s9', ⟨h14, ?_, ?_⟩, ?_⟩
  · rw [s9.1 43 (by omega) (by omega), su_ne (by omega)]; exact E.2.1
  · rw [s9.1 44 (by omega) (by omega), su_row, upd_s]
  · unfold m_print_S30
    rw [E.1, if_neg (nI_nle (by omega) (by omega)), nI_pred, gd_t i1, gd_t i1, gd_t i1, gd_t i1, ltS, nI_clamp (show p < 2 ^ 31 by omega), E.2.1, E.2.2, nI_1, e9, bd_s, gd_t (ix_nI (show t < 400 by omega) (by decide)), nI_clamp (show t < 2 ^ 31 by omega), h35, show m_partsOf r9 (nI k) = some (nI (kP k)) from pO k7 _, ob_s, h14, nI_pred]
    rfl
theorem pr_sim {c : jS} {T n : Nat} : ∀ (d t : Nat) (r : jS) (p L : Nat), Ty c r T → Tm c r T n → t < n → dpN c t ≤ d → p + d ≤ 90 → r 30 14 = nI p → PG r L → ∃ r', m_print_L30 (psh r p (nI t)) = m_print_L30 r' ∧ SP p r r' L (txE c d t) ∧ r' 30 14 = nI p
  | 0, t, r, p, L, hT, hM, ht, hd, hp, h14, hP => by have := dpp hM ht; omega
  | d + 1, t, r, p, L, hT, hM, ht, hd, hp, h14, hP => by
    have h4 := hM.2.2.1
    obtain ⟨hC, k, lx, ty, oa, ob', od, hN⟩ := hM.2.2.2 t ht
    have k7 : k < 7 := hN.1.1
    have k3 := kP_3 k7
    have st : ∀ (m s : Nat) (r1 : jS) (L1 : Nat), s + m = kP k → Ty c r1 T → Tm c r1 T n → Nod c r1 T t k lx ty oa ob' od → E3 r1 p t s → PG r1 L1 → ∃ r', m_print_L30 r1 = m_print_L30 r' ∧ SP p r1 r' L1 (txP c (txE c d) t k m s) ∧ r' 30 14 = nI p := by
      intro m
      induction m with
      | zero =>
        intro s r1 L1 hs hT1 hM1 hN1 E1 hP1
        obtain ⟨r9, s9, E9, e9⟩ := pr_turn hT1 hM1 ht hN1 (by omega) (by omega) E1 hP1
        refine ⟨su r9 30 14 (nI p), ?_, SP_post s9 (SPF_14 SPF.rf), by rw [su_row, upd_s]⟩
        unfold m_print_L30
        refine lp_inl ?_
        show m_print_S30 r1 = _
        rw [e9, if_pos (nI_le (by omega) (by omega))]
      | succ m ih =>
        intro s r1 L1 hs hT1 hM1 hN1 E1 hP1
        obtain ⟨r9, s9, E9, e9⟩ := pr_turn hT1 hM1 ht hN1 (by omega) (by omega) E1 hP1
        obtain ⟨q, hq, c1q, r39q, dq⟩ := part_ok hM1 ht hN1 (show s < kP k by omega)
        have hM9 := Tm_SP s9 hM1
        have hT9 := Ty_SP s9 hT1
        have am9 : AgM n r1 r9 := ⟨fun q h1 h2 h3 t ht => by rw [s9.1 q (by omega) (by omega)], fun j hj => by rw [s9.1 39 (by omega) (by omega)], fun j hj => by rw [s9.1 42 (by omega) (by omega)]⟩
        have dd := dpp hM1 (show q < n by omega)
        obtain ⟨r2, e2, s2, h2⟩ := pr_sim d q r9 (p + 1) (L1 + (emT c t k s).length) hT9 hM9 (by omega) (by omega) (by omega) E9.1 s9.2.2.2.1
        have am2 : AgM n r9 r2 := ⟨fun q h1 h2 h3 t ht => by rw [s2.1 q (by omega) (by omega)], fun j hj => by rw [s2.1 39 (by omega) (by omega)], fun j hj => by rw [s2.1 42 (by omega) (by omega)]⟩
        obtain ⟨r3, e3, s3, h3⟩ := ih (s + 1) r2 (L1 + (emT c t k s).length + (txE c d q).length) (by omega) (Ty_SP s2 hT9) (Tm_SP s2 hM9) (Nod_keep AgX.rf (am9.tr (Nat.le_refl n) am2) fX.rf ht hN1) ⟨h2, by rw [s2.2.2.1 43 (by omega) (by omega) p (by omega)]; exact E9.2.1, by rw [s2.2.2.1 44 (by omega) (by omega) p (by omega)]; exact E9.2.2⟩ s2.2.2.2.1
        refine ⟨r3, ?_, ?_, h3⟩
        · rw [← e3, ← e2]
          unfold m_print_L30
          refine lp_inl ?_
          show m_print_S30 r1 = _
          rw [e9, if_neg (nI_ge (by omega) (by omega)), m_part_t hM9 ht (by omega), ob_s, s9.1 39 (by omega) (by omega), r39q, m_push_t E9.1 (by omega), bd_s]
        · show SP p r1 r3 L1 (emT c t k s ++ (txE c d (c (10 + s) t).toNatClampNeg ++ txP c (txE c d) t k m (s + 1)))
          rw [cl_k c1q (by omega)]
          exact s9.tr (Nat.le_refl _) (SP.tr (Nat.le_refl p) (SP_mono (by omega) s2) s3)
    have hf : SPF p r (psh r p (nI t)) := SPF_psh SPF.rf (Nat.le_refl _)
    have hE := En_psh (r := r) (p := p) (t := t)
    obtain ⟨r', e, s, h⟩ := st (kP k) 0 (psh r p (nI t)) L (by omega) (Ty_SPF hf hT) (Tm_SPF hf hM) (Nod_keep AgX.rf (AgM_psh AgM.rf) fX.rf ht hN) ⟨hE.1, hE.2.1, hE.2.2.1⟩ (PG_SPF hf hP)
    refine ⟨r', e, SP_pre (Nat.le_refl _) hf ?_, h⟩
    rw [txE, kiN_k hN.2.1.1 k7]
    exact s
theorem pr_copy {L : Nat} (hL : L ≤ 4000) : ∀ (m i : Nat) (r : jS), i + m = L → r 30 35 = nI L → ∃ r', m_print_L129 (nI i) r = some (nI L, r') ∧ (∀ q, q ≠ 30 → q ≠ 55 → r' q = r q) ∧ (∀ k, k ≠ 33 → r' 30 k = r 30 k) ∧ r' 30 33 = nI L ∧ (∀ j, j < i → r' 55 j = r 55 j) ∧ (∀ j, i ≤ j → j < L → r' 55 j = r 56 j)
  | 0, i, r, hi, h35 => by
    refine ⟨su r 30 33 (nI L), ?_, fun q h1 h2 => su_ne h1, fun k h => by rw [su_row, upd_n h], by rw [su_row, upd_s], fun j hj => by rw [su_ne (by omega)], fun j h1 h2 => by omega⟩
    unfold m_print_L129
    refine lp_inr ?_
    show m_print_S129 (nI i) r = _
    unfold m_print_S129
    rw [h35, if_pos (nI_le (by omega) (by omega)), ltS, su_row, upd_s]
  | m + 1, i, r, hi, h35 => by
    obtain ⟨r', e, g1, g2, g3, g4, g5⟩ := pr_copy hL m (i + 1) (su r 55 i (r 56 i)) (by omega) h35
    refine ⟨r', Eq.trans ?_ e, fun q h1 h2 => (g1 q h1 h2).trans (su_ne h2), fun k h => (g2 k h).trans (by rw [su_ne (by omega)]), g3, fun j hj => by rw [g4 j (by omega), su_row, upd_n (by omega)], fun j h1 h2 => ?_⟩
    · unfold m_print_L129
      refine lp_inl ?_
      show m_print_S129 (nI i) r = _
      unfold m_print_S129
      rw [h35, if_neg (nI_ge (by omega) (by omega)), gd_t (ix_nI (by omega) (by decide)), gd_t (ix_nI (by omega) (by decide)), ltS, nI_clamp (by omega), nI_1]
    · by_cases hj : j = i
      · subst hj
        rw [g4 j (by omega), su_row, upd_s]
      · rw [g5 j (by omega) h2, su_ne (by omega)]
def fXP (c c' : jS) : Prop := ∀ p, p ≠ 26 → p ≠ 27 → c' p = c p
def fMP (r r' : jS) : Prop := (∀ p, p ≠ 30 → p < 43 ∨ (47 < p ∧ p < 55) ∨ 58 < p → r' p = r p) ∧ ∀ q, q ≠ 14 → q ≠ 33 → q ≠ 35 → q ≠ 36 → r' 30 q = r 30 q
theorem Inv_P {c c' r r' : jS} {T n L : Nat} (hx : fXP c c') (hm : fMP r r') (hT : Ty c r T) (hM : Tm c r T n) (hO : Oth c r T) (hL : L ≤ 4000) (h1 : c' 26 3 = nI L) (h2 : r' 30 33 = nI L) (h3 : ∀ i, i < L → r' 55 i = (c' 27 i &&& 255)) : Inv c' r' := by
  refine ⟨T, n, ?_, ?_, ?_⟩
  · unfold Ty lnN at *
    rw [hx 1 (by omega) (by omega), hx 2 (by omega) (by omega), hx 3 (by omega) (by omega), hx 4 (by omega) (by omega), hm.2 0 (by omega) (by omega) (by omega) (by omega), hm.1 31 (by omega) (by omega), hm.1 32 (by omega) (by omega), hm.1 33 (by omega) (by omega)]
    exact hT
  · refine Tm_of (Nat.le_refl n) (fun p h1 h2 t ht => by rw [hx p (by omega) (by omega)]) ⟨fun p h1 h2 h3 t ht => by rw [hm.1 p (by omega) (by omega)], fun j hj => by rw [hm.1 39 (by omega) (by omega)], fun j hj => by rw [hm.1 42 (by omega) (by omega)]⟩ (fun i hi => by rw [hx 4 (by omega) (by omega)]) ?_ ?_ hM
    · rw [hx 5 (by omega) (by omega)]; exact hM.1
    · rw [hm.2 5 (by omega) (by omega) (by omega) (by omega)]; exact hM.2.1
  · refine ⟨?_, ?_, ⟨L, hL, h1, h2, h3⟩, ?_⟩
    · rw [hx 18 (by omega) (by omega), hm.1 34 (by omega) (by omega)]; exact hO.1
    · rw [hx 17 (by omega) (by omega), hx 0 (by omega) (by omega), hm.2 24 (by omega) (by omega) (by omega) (by omega), hm.2 25 (by omega) (by omega) (by omega) (by omega), hm.2 31 (by omega) (by omega) (by omega) (by omega)]; exact hO.2.1
    · rw [hx 28 (by omega) (by omega), hx 29 (by omega) (by omega), hm.2 40 (by omega) (by omega) (by omega) (by omega), hm.1 59 (by omega) (by omega)]; exact hO.2.2.2
theorem op_print : Op_print Inv := by
  intro c r a hI
  obtain ⟨T, n, hT, hM, hO⟩ := id hI
  unfold xc_print m_print
  rcases term_cases hM.1 hM.2.1 hM.2.2.1 a with ⟨t, ht, rfl, e1, e2⟩ | ⟨e1, e2⟩
  · have h4 := hM.2.2.1
    obtain ⟨-, ⟨-, -, -, hdp, h16, -⟩, -⟩ := (hM.2.2.2 t ht).1
    have hlen := txE_len hT hM 40 t ht hdp
    have hf : SPF 0 (su (su r 30 35 0) 30 36 0) (su (su (su r 30 35 0) 30 36 0) 30 14 0) := SPF_14 SPF.rf
    have fr0 : ∀ q, q ≠ 30 → (su (su (su r 30 35 0) 30 36 0) 30 14 0) q = r q := fun q h => by rw [su_ne h, su_ne h, su_ne h]
    have fr1 : ∀ k, k ≠ 14 → k ≠ 35 → k ≠ 36 → (su (su (su r 30 35 0) 30 36 0) 30 14 0) 30 k = r 30 k := fun k h1 h2 h3 => by rw [su_row, upd_n h1, su_row, upd_n h3, su_row, upd_n h2]
    have hP : PG (su (su (su r 30 35 0) 30 36 0) 30 14 0) 0 := by
      refine ⟨?_, ?_⟩
      · rw [su_row, upd_n (by omega), su_row, upd_n (by omega), su_row, upd_s]; rfl
      · rw [su_row, upd_n (by omega), su_row, upd_s, if_neg (by omega)]
    generalize hR : su (su (su r 30 35 0) 30 36 0) 30 14 0 = R at *
    have R14 : R 30 14 = nI 0 := by rw [← hR, su_row, upd_s]; rfl
    have hTR : Ty c R T := by
      unfold Ty at *
      rw [fr0 31 (by omega), fr0 32 (by omega), fr0 33 (by omega), fr1 0 (by omega) (by omega) (by omega)]
      exact hT
    have hMR : Tm c R T n := Tm_r ⟨fun q h1 h2 h3 t ht => by rw [fr0 q (by omega)], fun j hj => by rw [fr0 39 (by omega)], fun j hj => by rw [fr0 42 (by omega)]⟩ (fr1 5 (by omega) (by omega) (by omega)) hM
    obtain ⟨r1, q1, s1, h14⟩ := pr_sim 40 t R 0 0 hTR hMR ht hdp (by omega) R14 hP
    have t1 : ∀ {v : Int32 × jS}, m_print_L30 r1 = some v → (lt (su r 30 35 (0 : Int32)) (fun c2 => lt (su c2 30 36 (0 : Int32)) (fun c3 => lt (su c3 30 14 (0 : Int32)) (fun c4 => bd (m_push c4 (nI t)) (fun _ c5 => m_print_L30 c5))))) = some v := fun {v} hv => by
      rw [ltS, ltS, ltS, hR, m_push_t R14 (by omega), bd_s, q1, hv]
    rw [e1, ob_s, if_neg n10, e2, ob_s, if_neg n10]
    unfold xPrinter_show
    rw [x_widthOf_t hM.1 h4 ht, ob_s, h16]
    have hw60 : wdN c t < 2 ^ 31 := by have := (hM.2.2.2 t ht).1.2.1; omega
    by_cases hw : wdN c t ≤ 4000
    · obtain ⟨c3, f3, w3⟩ := w_term hT hM 40 130 (by omega) t 0 (su c 26 3 0) hdp ht (fun p h1 h2 => su_ne h1) (by rw [su_row, upd_s]; rfl) (by omega)
      have P1 := s1.2.2.2.1
      rw [hlen, Nat.zero_add] at P1
      obtain ⟨r2, q2, g1, g2, g3, -, g5⟩ := pr_copy hw (wdN c t) 0 r1 (by omega) (by rw [P1.1, show min 4000 (wdN c t) = wdN c t by omega])
      have w26 := w3.2.1
      rw [hlen, Nat.zero_add] at w26
      refine ⟨nI (wdN c t), c3, r2, ?_, t1 ?_, Inv_P (L := wdN c t) ?_ ?_ hT hM hO hw w26 g3 ?_⟩
      · rw [if_pos (show nI (wdN c t) ≤ (4000 : Int32) from nI_le (b := 4000) hw (by decide)), ltS, f3, bd_s, bd_s, w26]
      · unfold m_print_L30
        refine lp_inr ?_
        show m_print_S30 r1 = _
        unfold m_print_S30
        rw [h14, if_pos (by decide), P1.2, if_neg (show ¬ 4000 < wdN c t by omega), if_pos rfl, show (0 : Int32) = nI 0 from rfl, q2, om_s]
      · exact fun p h1 h2 => (w3.1 p h1 h2).trans (su_ne h1)
      · refine ⟨fun p h1 h2 => ?_, fun k h1 h2 h3 h5 => ?_⟩
        · rw [g1 p h1 (by omega), s1.1 p h1 (by omega), fr0 p h1]
        · rw [g2 k h2, s1.2.1 k h1 h3 h5, fr1 k h1 h3 h5]
      · intro i hi
        have hi' : i < (txE c 40 t).length := by omega
        obtain ⟨x, hx⟩ : ∃ x, (txE c 40 t)[i]? = some x := ⟨_, List.getElem?_eq_getElem hi'⟩
        have a1 := w3.2.2.2 i x hx
        have a2 := s1.2.2.2.2.2 i x hx (by omega)
        rw [Nat.zero_add] at a1 a2
        rw [g5 i (by omega) hi, a2, a1]
    · have P1 := s1.2.2.2.1
      rw [hlen, Nat.zero_add] at P1
      obtain ⟨L, hL, p1, p2, p3⟩ := hO.2.2.1
      refine ⟨-3, c, r1, ?_, t1 ?_, Inv_P (L := L) (fun _ _ _ => rfl) ?_ hT hM hO hL p1 ?_ ?_⟩
      · rw [if_neg (show ¬ nI (wdN c t) ≤ (4000 : Int32) from nI_ge (a := 4000) (by omega) hw60), bd_s]
      · unfold m_print_L30
        refine lp_inr ?_
        show m_print_S30 r1 = _
        unfold m_print_S30
        rw [h14, if_pos (by decide), P1.2, if_pos (show 4000 < wdN c t by omega), if_neg n10]
      · exact ⟨fun p h1 h2 => by rw [s1.1 p h1 (by omega), fr0 p h1], fun k h1 h2 h3 h5 => by rw [s1.2.1 k h1 h3 h5, fr1 k h1 h3 h5]⟩
      · rw [s1.2.1 33 (by omega) (by omega) (by omega), fr1 33 (by omega) (by omega) (by omega)]; exact p2
      · rw [s1.1 55 (by omega) (by omega), fr0 55 (by omega)]; exact p3
  · exact ⟨-1, c, r, by rw [e1, ob_s, if_pos rfl], by rw [e2, ob_s, if_pos rfl], hI⟩
