theorem pred_lt {L : Nat} (h : L < 2 ^ 30) : nI L - 1 < nI L := by
  cases L with
  | zero => decide
  | succ L => rw [nI_pred]; exact nI_lt (by omega) (by omega)
theorem wn_41 {v1 : Int32} {L : Nat} : ∀ (k V : Nat) (c : jS), V ≤ 2 ^ 31 → L + k ≤ 4000 → L < 4000 → ∃ c' : jS, xPrinter_writeNumber_L41 v1 (lN V) (nI L) (nI (L + k) - 1) c = some ((), if v1 < 0 then su c' 27 L (vp_nar .byte 45) else c') ∧ (∀ p, p ≠ 27 → c' p = c p) ∧ (∀ i, i < L ∨ L + k ≤ i → c' 27 i = c 27 i) ∧ ∀ i, i < k → (c' 27 (L + i) &&& 255) = nI (48 + V / 10 ^ (k - 1 - i) % 10)
  | 0, V, c, hV, hL, hL4 => by
    refine ⟨c, ?_, fun _ _ => rfl, fun _ _ => rfl, fun i hi => by omega⟩
    unfold xPrinter_writeNumber_L41
    refine lp_inr ?_
    show xPrinter_writeNumber_S41 v1 (lN V) (nI L) (nI (L + 0) - 1) c = _
    unfold xPrinter_writeNumber_S41 xPrinter_writeNumber_P91_41
    rw [show L + 0 = L from rfl, if_pos (pred_lt (by omega))]
    by_cases hv : v1 < 0
    · rw [if_neg (nlt0 hv), if_neg (show ¬ (4000 : Int32) ≤ nI L from nI_ge (b := 4000) hL4 (by decide)), gd_t (ix_nI hL4 (by decide)), ltS, nI_clamp (by omega), if_pos hv]
    · rw [if_pos (ge0 hv), if_neg hv]
  | k + 1, V, c, hV, hL, hL4 => by
    obtain ⟨c', e, h1, h2, h3⟩ := wn_41 (v1 := v1) (L := L) k (V / 10) (su c 27 (L + k) (vp_nar .byte ((48 : Int64) + (lN V - lN V / (10 : Int64) * (10 : Int64))).toInt32.toInt8.toInt32)) (by omega) (by omega) hL4
    refine ⟨c', Eq.trans ?_ e, fun p hp => by rw [h1 p hp, su_ne hp], fun i hi => ?_, fun i hi => ?_⟩
    · unfold xPrinter_writeNumber_L41
      refine lp_inl ?_
      show xPrinter_writeNumber_S41 v1 (lN V) (nI L) (nI (L + (k + 1)) - 1) c = _
      unfold xPrinter_writeNumber_S41
      rw [show nI (L + (k + 1)) - 1 = nI (L + k) from nI_pred (L + k), if_neg (nI_nlt (by omega) (by omega)), if_neg (nI_pos (by omega)), if_neg (show ¬ (4000 : Int32) ≤ nI (L + k) from nI_ge (b := 4000) (by omega) (by decide)), gd_t nz_10, gd_t (ix_nI (by omega) (by decide)), ltS, gd_t nz_10, nI_clamp (by omega), show lN V / (10 : Int64) = lN (V / 10) from pk_lDiv (b := 10) (by omega) (by decide) (by decide)]
    · rw [h2 i (by omega), su_row, upd_n (by omega)]
    · by_cases hik : i < k
      · rw [h3 i hik, Nat.div_div_eq_div_mul, show 10 * 10 ^ (k - 1 - i) = 10 ^ (k + 1 - 1 - i) from (by rw [Nat.mul_comm, ← Nat.pow_succ, show (k - 1 - i).succ = k + 1 - 1 - i by omega])]
      · have hi' : i = k := by omega
        subst hi'
        rw [h2 (L + i) (by omega), su_row, upd_s, byte_255, show (10 : Int64) = lN 10 from rfl, pk_lRem (by omega) (by decide) (by decide), show (48 : Int64) = lN 48 from rfl, lN_add, lN_i, a255 _ (by omega), show i + 1 - 1 - i = 0 by omega, Nat.pow_zero, Nat.div_one]
theorem wn_15 {v1 : Int32} {v3 : Int64} {L w : Nat} : ∀ (k j : Nat) (c : jS), j + k = w → L + w ≤ 4000 → c 26 3 = nI (L + j) → ∃ c' : jS, xPrinter_writeNumber_L15 v1 (nI w) v3 (nI L) (nI j) c = xPrinter_writeNumber_L41 v1 v3 (nI L) (nI (L + w) - 1) c' ∧ (∀ p, p ≠ 26 → p ≠ 27 → c' p = c p) ∧ c' 26 3 = nI (L + w) ∧ ∀ i, i < L → c' 27 i = c 27 i
  | 0, j, c, hj, hL, h => by
    have hjw : j = w := by omega
    subst hjw
    refine ⟨c, ?_, fun _ _ _ => rfl, h, fun _ _ => rfl⟩
    unfold xPrinter_writeNumber_L15
    refine lp_om ?_
    show xPrinter_writeNumber_S15 v1 (nI j) v3 (nI L) (nI j) c = _
    unfold xPrinter_writeNumber_S15
    rw [if_pos (nI_le (Nat.le_refl j) (by omega)), h]
  | k + 1, j, c, hj, hL, h => by
    obtain ⟨c1, e1, a1, a2, a3, -⟩ := w_1 (x := 48) h (by omega) (by omega)
    obtain ⟨c', e, b1, b2, b3⟩ := wn_15 (v1 := v1) (v3 := v3) (L := L) (w := w) k (j + 1) c1 (by omega) hL a2
    refine ⟨c', Eq.trans ?_ e, fun p h1 h2 => (b1 p h1 h2).trans (a1 p h1 h2), b2, fun i hi => (b3 i hi).trans (a3 i (by omega))⟩
    unfold xPrinter_writeNumber_L15
    refine lp_inl ?_
    show xPrinter_writeNumber_S15 v1 (nI w) v3 (nI L) (nI j) c = _
    unfold xPrinter_writeNumber_S15
    rw [if_neg (nI_ge (by omega) (by omega)), show (48 : Int32) = nI 48 from rfl, e1, bd_s, nI_1]
theorem absx (v : Int32) : (if 0 < v.toInt64 then v.toInt64 else -v.toInt64) = lN v.toInt.natAbs := by
  rw [← abs_l v]
  by_cases h : v < 0
  · have h1 : ¬ (0 : Int64) < v.toInt64 := fun q => by
      have : (0 : Int64) ≤ v.toInt64 := by
        rw [Int64.le_iff_toInt_le]; rw [Int64.lt_iff_toInt_lt] at q; omega
      exact (l0 v).mp this h
    rw [if_neg h1, if_pos h]
  · rw [if_neg h]
    by_cases h1 : (0 : Int64) < v.toInt64
    · rw [if_pos h1]
    · rw [if_neg h1]
      have h2 := (l0 v).mpr h
      have e : v.toInt64 = 0 := by
        apply Int64.toInt_inj.mp
        rw [Int64.le_iff_toInt_le] at h2
        rw [Int64.lt_iff_toInt_lt] at h1
        omega
      rw [e]
      decide
theorem w_num {c : jS} {L : Nat} (v : Int32) (h : c 26 3 = nI L) (hL : L + dgN v ≤ 4000) : ∃ c', xPrinter_writeNumber c v (nI (dgN v)) = some ((), c') ∧ WX c c' L (dgl v) := by
  have hd : 1 ≤ dgN v := by unfold dgN; omega
  have ha := abs_lt v
  obtain ⟨c1, e1, a1, a2, a3⟩ := wn_15 (v1 := v) (v3 := lN v.toInt.natAbs) (L := L) (w := dgN v) (dgN v) 0 c (by omega) hL h
  obtain ⟨c2, e2, b1, b2, b3⟩ := wn_41 (v1 := v) (L := L) (dgN v) v.toInt.natAbs c1 ha hL (by omega)
  refine ⟨if v < 0 then su c2 27 L (vp_nar .byte 45) else c2, ?_, ?_⟩
  · unfold xPrinter_writeNumber
    rw [absx, h]
    exact e1.trans e2
  · have hlen := dgl_len v
    by_cases hv : v < 0
    · rw [if_pos hv]
      refine ⟨fun p h1 h2 => by rw [su_ne h2, b1 p h2, a1 p h1 h2], by rw [su_ne (by omega), b1 26 (by omega), hlen]; exact a2, fun i hi => by rw [su_row, upd_n (by omega), b2 i (by omega), a3 i hi], ?_⟩
      intro i x hx
      rw [su_row]
      unfold dgl at hx
      rw [if_pos hv] at hx
      cases i with
      | zero =>
        simp at hx
        subst hx
        rw [show L + 0 = L from rfl, upd_s, vp_nar_byte]
        decide
      | succ i =>
        have hx' : (dlR v.toInt.natAbs (nd0 10 (v.toInt.natAbs / 10)))[i]? = some x := by simpa using hx
        obtain ⟨q1, q2⟩ := dlR_at _ _ _ _ hx'
        have hdg : dgN v = nd0 10 (v.toInt.natAbs / 10) + 2 := by unfold dgN; rw [if_pos hv]; omega
        rw [upd_n (by omega), b3 (i + 1) (by omega), q2, hdg, show nd0 10 (v.toInt.natAbs / 10) + 2 - 1 - (i + 1) = nd0 10 (v.toInt.natAbs / 10) - i by omega]
    · rw [if_neg hv]
      refine ⟨fun p h1 h2 => by rw [b1 p h2, a1 p h1 h2], by rw [b1 26 (by omega), hlen]; exact a2, fun i hi => by rw [b2 i (by omega), a3 i hi], ?_⟩
      intro i x hx
      unfold dgl at hx
      rw [if_neg hv] at hx
      obtain ⟨q1, q2⟩ := dlR_at _ _ _ _ hx
      have hdg : dgN v = nd0 10 (v.toInt.natAbs / 10) + 1 := by unfold dgN; rw [if_neg hv]; omega
      rw [b3 i (by omega), q2, hdg, show nd0 10 (v.toInt.natAbs / 10) + 1 - 1 - i = nd0 10 (v.toInt.natAbs / 10) - i by omega]
/-- the text of a type -/
def txT (c : jS) : Nat → Nat → List Nat
  | 0, _ => []
  | f + 1, y => if y = 0 then [105] else [40] ++ (txT c f (c 2 y).toNatClampNeg ++ ([62] ++ (txT c f (c 3 y).toNatClampNeg ++ [41])))
theorem txT_s {c : jS} {f y a b : Nat} (hy : 1 ≤ y) (h2 : c 2 y = nI a) (h3 : c 3 y = nI b) (ha : a < 40) (hb : b < 40) : txT c (f + 1) y = [40] ++ (txT c f a ++ ([62] ++ (txT c f b ++ [41]))) := by
  rw [txT, if_neg (by omega), h2, h3, nI_clamp (show a < 2 ^ 31 by omega), nI_clamp (show b < 2 ^ 31 by omega)]
theorem txT_len {c r : jS} {T : Nat} (hT : Ty c r T) : ∀ (f y : Nat), y < f → y < T → (txT c f y).length = lnN c y
  | 0, y, h, _ => by omega
  | f + 1, y, h, hy => by
    have h40 := hT.2.2.2.1
    by_cases h0 : y = 0
    · subst h0
      rw [txT, if_pos rfl]
      unfold lnN
      rw [hT.2.2.2.2.2.1.2.2]
      rfl
    · obtain ⟨a, b, ha, hb, e2, e3, e4⟩ := hT.2.2.2.2.2.2 y (by omega) hy
      rw [txT_s (by omega) e2 e3 (by omega) (by omega)]
      simp only [List.length_append, List.length_cons, List.length_nil]
      rw [txT_len hT f a (by omega) (by omega), txT_len hT f b (by omega) (by omega), e4]
      omega
theorem w_type {c0 r0 : jS} {T : Nat} (hT : Ty c0 r0 T) : ∀ (f g y L : Nat) (c : jS), y < f → y < g → y < T → (∀ p, p ≠ 26 → p ≠ 27 → c p = c0 p) → c 26 3 = nI L → L + lnN c0 y ≤ 4000 → ∃ c', xPrinter_writeType g c (nI y) = some ((), c') ∧ WX c c' L (txT c0 f y)
  | 0, g, y, L, c, h, _, _, _, _, _ => by omega
  | f + 1, g, y, L, c, hf, hg, hy, hc, hL, hw => by
    obtain ⟨g, rfl⟩ : ∃ g', g = g' + 1 := ⟨g - 1, by omega⟩
    have h40 := hT.2.2.2.1
    rw [xPrinter_writeType_s]
    unfold b_xPrinter_writeType
    by_cases h0 : y = 0
    · subst h0
      have l1 : lnN c0 0 = 1 := by unfold lnN; rw [hT.2.2.2.2.2.1.2.2]; rfl
      obtain ⟨c1, e1, s1⟩ := w_1 (x := 105) hL (by omega) (by omega)
      refine ⟨c1, ?_, ?_⟩
      · rw [if_pos (by decide), show (105 : Int32) = nI 105 from rfl, e1, bd_s]
      · rw [txT, if_pos rfl]; exact s1
    · obtain ⟨a, b, ha, hb, e2, e3, e4⟩ := hT.2.2.2.2.2.2 y (by omega) hy
      have t13 : ∀ {c1 : jS}, (∀ p, p ≠ 26 → p ≠ 27 → c1 p = c0 p) → c1 1 3 = nI T := fun h => by rw [h 1 (by omega) (by omega)]; exact hT.1
      have la := txT_len hT f a (by omega) (by omega)
      have lb := txT_len hT f b (by omega) (by omega)
      obtain ⟨c1, q1, s1⟩ := w_1 (x := 40) hL (by omega) (by omega)
      have hc1 : ∀ p, p ≠ 26 → p ≠ 27 → c1 p = c0 p := fun p h1 h2 => (s1.1 p h1 h2).trans (hc p h1 h2)
      obtain ⟨c2, q2, s2⟩ := w_type hT f g a (L + 1) c1 (by omega) (by omega) (by omega) hc1 s1.2.1 (by omega)
      have hc2 : ∀ p, p ≠ 26 → p ≠ 27 → c2 p = c0 p := fun p h1 h2 => (s2.1 p h1 h2).trans (hc1 p h1 h2)
      obtain ⟨c3, q3, s3⟩ := w_1 (x := 62) s2.2.1 (by omega) (by omega)
      have hc3 : ∀ p, p ≠ 26 → p ≠ 27 → c3 p = c0 p := fun p h1 h2 => (s3.1 p h1 h2).trans (hc2 p h1 h2)
      obtain ⟨c4, q4, s4⟩ := w_type hT f g b (L + 1 + (txT c0 f a).length + 1) c3 (by omega) (by omega) (by omega) hc3 s3.2.1 (by omega)
      have hc4 : ∀ p, p ≠ 26 → p ≠ 27 → c4 p = c0 p := fun p h1 h2 => (s4.1 p h1 h2).trans (hc3 p h1 h2)
      obtain ⟨c5, q5, s5⟩ := w_1 (x := 41) s4.2.1 (by omega) (by omega)
      refine ⟨c5, ?_, ?_⟩
      · rw [if_neg (nI_nle (by omega) (by omega)), xt_has_t (t13 hc) h40 hy, ob_s, if_neg n10, show (40 : Int32) = nI 40 from rfl, q1, bd_s, xt_fromOf_t (t13 hc1) h40 hy, ob_s, hc1 2 (by omega) (by omega), e2, q2, bd_s, show (62 : Int32) = nI 62 from rfl, q3, bd_s, xt_toOf_t (t13 hc3) h40 hy, ob_s, hc3 3 (by omega) (by omega), e3, q4, bd_s, show (41 : Int32) = nI 41 from rfl, q5, bd_s]
      · rw [txT_s (by omega) e2 e3 (by omega) (by omega)]
        exact s1.tr (s2.tr (s3.tr (s4.tr s5)))
