theorem tb_255 : ∀ i, i < 32 → tb 255 i = decide (i < 8) := by decide +kernel
theorem and255 {a b : Int32} (h : ∀ i, i < 8 → tb a i = tb b i) : (a &&& 255) = (b &&& 255) := by
  refine Int32.toBitVec.inj (BitVec.eq_of_getLsbD_eq (fun i hi => ?_))
  show tb (a &&& 255) i = tb (b &&& 255) i
  rw [tb_and, tb_and, tb_255 i hi]
  by_cases h8 : i < 8
  · rw [h i h8]
  · simp [h8]
theorem tb_byte (a : Int32) {i : Nat} (hi : i < 8) : tb a.toInt8.toInt32 i = tb a i := by
  show ((a.toBitVec.signExtend 8).signExtend 32).getLsbD i = a.toBitVec.getLsbD i
  rw [BitVec.getLsbD_signExtend, BitVec.getLsbD_signExtend]
  have h1 : i < 32 := by omega
  simp [hi, h1]
theorem byte_255 (a : Int32) : (vp_nar .byte a.toInt8.toInt32 &&& 255) = (a &&& 255) := by
  refine and255 (fun i hi => ?_)
  show tb (a.toInt8.toInt32).toInt8.toInt32 i = tb a i
  rw [tb_byte _ hi, tb_byte _ hi]
theorem and255_255 (a : Int32) : ((a &&& 255) &&& 255) = (a &&& 255) := by
  refine and255 (fun i hi => ?_)
  rw [tb_and, tb_255 i (by omega)]
  simp [hi]
theorem shU (w : Int64) {k i : Nat} (hk : k < 8) (hi : i < 8) : tb ((w.toUInt64 >>> (((8 : Int32) * nI k).toInt64.toUInt64 &&& Int64.toUInt64 63)).toInt64.toInt32) i = w.toBitVec.getLsbD (8 * k + i) := by
  have e : ((((8 : Int32) * nI k).toInt64.toUInt64 &&& Int64.toUInt64 63).toBitVec % 64).toNat = 8 * k := by
    rcases (show k = 0 ∨ k = 1 ∨ k = 2 ∨ k = 3 ∨ k = 4 ∨ k = 5 ∨ k = 6 ∨ k = 7 by omega) with rfl | rfl | rfl | rfl | rfl | rfl | rfl | rfl <;> decide
  show (((w.toUInt64 >>> (((8 : Int32) * nI k).toInt64.toUInt64 &&& Int64.toUInt64 63)).toBitVec).signExtend 32).getLsbD i = _
  rw [BitVec.getLsbD_signExtend, UInt64.toBitVec_shiftRight, BitVec.ushiftRight_eq', BitVec.getLsbD_ushiftRight, e]
  have h1 : i < 32 := by omega
  have h2 : i < 64 := by omega
  simp [h1, h2]
theorem shS (w : Int64) {k i : Nat} (hk : k < 8) (hi : i < 8) : tb ((w >>> (((8 : Int32) * nI k).toInt64 &&& 63)).toInt32) i = w.toBitVec.getLsbD (8 * k + i) := by
  have e : (((((8 : Int32) * nI k).toInt64 &&& 63).toBitVec).smod 64).toNat = 8 * k := by
    rcases (show k = 0 ∨ k = 1 ∨ k = 2 ∨ k = 3 ∨ k = 4 ∨ k = 5 ∨ k = 6 ∨ k = 7 by omega) with rfl | rfl | rfl | rfl | rfl | rfl | rfl | rfl <;> decide
  show ((BitVec.sshiftRight' w.toBitVec ((((8 : Int32) * nI k).toInt64 &&& 63).toBitVec.smod 64)).signExtend 32).getLsbD i = _
  rw [BitVec.getLsbD_signExtend, BitVec.getLsbD_sshiftRight', e]
  have h1 : i < 32 := by omega
  have h2 : i < 64 := by omega
  have h3 : 8 * k + i < 64 := by omega
  simp [h1, h2, h3]
def Tp (c r : jS) (M : Nat) : Prop := c 28 3 = nI M ∧ r 30 40 = nI M ∧ ∀ i, i < M → r 59 i = (c 29 i &&& 255)
def fXR (c c' : jS) : Prop := ∀ p, p ≠ 28 → p ≠ 29 → c' p = c p
def fMR (r r' : jS) : Prop := (∀ p, p ≠ 30 → p ≠ 59 → r' p = r p) ∧ ∀ q, q ≠ 40 → r' 30 q = r 30 q
theorem Inv_R {c c' r r' : jS} {T n M : Nat} (hx : fXR c c') (hm : fMR r r') (hT : Ty c r T) (hM : Tm c r T n) (hO : Oth c r T) (hp : Tp c' r' M) (h6 : M ≤ 600) : Inv c' r' := by
  refine ⟨T, n, ?_, ?_, ?_⟩
  · unfold Ty lnN at *
    rw [hx 1 (by omega) (by omega), hx 2 (by omega) (by omega), hx 3 (by omega) (by omega), hx 4 (by omega) (by omega), hm.2 0 (by omega), hm.1 31 (by omega) (by omega), hm.1 32 (by omega) (by omega), hm.1 33 (by omega) (by omega)]
    exact hT
  · refine Tm_of (Nat.le_refl n) (fun p h1 h2 t ht => by rw [hx p (by omega) (by omega)]) ⟨fun p h1 h2 h3 t ht => by rw [hm.1 p (by omega) (by omega)], fun j hj => by rw [hm.1 39 (by omega) (by omega)], fun j hj => by rw [hm.1 42 (by omega) (by omega)]⟩ (fun i hi => by rw [hx 4 (by omega) (by omega)]) ?_ ?_ hM
    · rw [hx 5 (by omega) (by omega)]; exact hM.1
    · rw [hm.2 5 (by omega)]; exact hM.2.1
  · refine ⟨?_, ?_, ?_, M, h6, hp.1, hp.2.1, hp.2.2⟩
    · rw [hx 18 (by omega) (by omega), hm.1 34 (by omega) (by omega)]; exact hO.1
    · rw [hx 17 (by omega) (by omega), hx 0 (by omega) (by omega), hm.2 24 (by omega), hm.2 25 (by omega), hm.2 31 (by omega)]; exact hO.2.1
    · rw [hx 26 (by omega) (by omega), hx 27 (by omega) (by omega), hm.2 33 (by omega), hm.1 55 (by omega) (by omega)]; exact hO.2.2.1
theorem x_add {c : jS} {M : Nat} (h : c 28 3 = nI M) (hM : M < 600) (a : Int32) : xReader_add c a = some ((), su (su c 29 M (vp_nar .byte a.toInt8.toInt32)) 28 3 (nI (M + 1))) := by
  unfold xReader_add
  rw [h, if_neg (nI_pos (by omega)), if_neg (show ¬ (600 : Int32) ≤ nI M from nI_ge (b := 600) (by omega) (by decide)), gd_t (ix_nI (by omega) (by decide)), ltS, ltS, nI_clamp (by omega), show (su c 29 M (vp_nar .byte a.toInt8.toInt32)) 28 3 = nI M from h, nI_1]
theorem Tp_add {c r : jS} {M : Nat} {a b : Int32} (h : Tp c r M) (hab : b = (a &&& 255)) : Tp (su (su c 29 M (vp_nar .byte a.toInt8.toInt32)) 28 3 (nI (M + 1))) (su (su r 59 M b) 30 40 (nI (M + 1))) (M + 1) := by
  refine ⟨by rw [su_row, upd_s], by rw [su_row, upd_s], fun i hi => ?_⟩
  show upd (r 59) M b i = (upd (c 29) M _ i &&& 255)
  by_cases hiM : i = M
  · subst hiM
    rw [upd_s, upd_s, byte_255, hab]
  · rw [upd_n hiM, upd_n hiM]
    exact h.2.2 i (by omega)
theorem fXR_add {c c' : jS} {M : Nat} {v w : Int32} (h : fXR c c') : fXR c (su (su c' 29 M v) 28 3 w) := fun p h1 h2 => by rw [su_ne h1, su_ne h2]; exact h p h1 h2
theorem fMR_add {r r' : jS} {M : Nat} {v w : Int32} (h : fMR r r') : fMR r (su (su r' 59 M v) 30 40 w) := by
  refine ⟨fun p h1 h2 => by rw [su_ne h1, su_ne h2]; exact h.1 p h1 h2, fun q hq => ?_⟩
  rw [su_row, upd_n hq]
  exact h.2 q hq
theorem feed_L (w : Int64) {c0 r0 : jS} : ∀ (k M : Nat) (c r : jS), k ≤ 8 → M + k ≤ 600 → Tp c r M → fXR c0 c → fMR r0 r → ∃ c' r', xReader_addBytes_L33 w (nI k - 1) c = some (nI (M + k), c') ∧ m_feed_L32 w (nI k - 1) r = some (nI (M + k), r') ∧ Tp c' r' (M + k) ∧ fXR c0 c' ∧ fMR r0 r'
  | 0, M, c, r, h8, h6, hp, hx, hm => by
    refine ⟨c, r, ?_, ?_, hp, hx, hm⟩
    · unfold xReader_addBytes_L33
      refine lp_inr ?_
      show xReader_addBytes_S33 w (nI 0 - 1) c = _
      unfold xReader_addBytes_S33
      rw [if_pos (by decide), hp.1]
      rfl
    · unfold m_feed_L32
      refine lp_inr ?_
      show m_feed_S32 w (nI 0 - 1) r = _
      unfold m_feed_S32
      rw [if_pos (by decide), hp.2.1]
      rfl
  | k + 1, M, c, r, h8, h6, hp, hx, hm => by
    obtain ⟨c', r', q1, q2, q3, q4, q5⟩ := feed_L w (c0 := c0) (r0 := r0) k (M + 1) _ _ (by omega) (by omega) (Tp_add (a := (w.toUInt64 >>> (((8 : Int32) * nI k).toInt64.toUInt64 &&& Int64.toUInt64 63)).toInt64.toInt32) (b := (w >>> (((8 : Int32) * nI k).toInt64 &&& 63)).toInt32 &&& 255) hp (and255 (fun i hi => by rw [shS w (by omega) hi, shU w (by omega) hi]))) (fXR_add hx) (fMR_add hm)
    rw [show M + 1 + k = M + (k + 1) by omega] at q1 q2 q3
    refine ⟨c', r', ?_, ?_, q3, q4, q5⟩
    · rw [← q1, nI_pred]
      unfold xReader_addBytes_L33
      refine lp_inl ?_
      show xReader_addBytes_S33 w (nI k) c = _
      unfold xReader_addBytes_S33
      rw [if_neg (nI_pos (by omega)), x_add hp.1 (by omega), bd_s]
    · rw [← q2, nI_pred]
      unfold m_feed_L32
      refine lp_inl ?_
      show m_feed_S32 w (nI k) r = _
      unfold m_feed_S32
      rw [if_neg (nI_pos (by omega)), hp.2.1, gd_t (ix_nI (by omega) (by decide)), ltS, ltS, nI_clamp (by omega), show (su r 59 M ((w >>> (((8 : Int32) * nI k).toInt64 &&& 63)).toInt32 &&& 255)) 30 40 = nI M from hp.2.1, nI_1]
theorem op_feed : Op_feed Inv := by
  intro c r w a hI
  obtain ⟨T, n, hT, hM, hO⟩ := id hI
  obtain ⟨M, hM6, t1, t2, t3⟩ := hO.2.2.2
  unfold xc_feed m_feed xReader_addBytes
  by_cases h1 : a < 1
  · exact ⟨-1, c, r, by rw [if_pos h1, bd_s], by rw [m_in_lo h1, ob_s, if_pos rfl], hI⟩
  · have h0 : ¬ a < 0 := by
      rw [Int32.lt_iff_toInt_lt] at *
      have e1 : (1 : Int32).toInt = 1 := by decide
      have e0 : (0 : Int32).toInt = 0 := by decide
      omega
    obtain ⟨k, hk, rfl⟩ := nI_of h0
    by_cases h8 : nI k ≤ 8
    · have hk8 : k ≤ 8 := (nI_leI (b := 8) hk (by decide)).mp h8
      have hin : m_in r (nI k) 1 8 = some 1 := by
        unfold m_in
        rw [if_neg h1, if_neg (show ¬ (8 : Int32) < nI k from nI_nlt (a := 8) hk8 (by decide))]
      rw [if_neg h1, if_pos h8, hin, ob_s, if_neg n10, t1, t2, nI_add]
      by_cases h6 : M + k ≤ 600
      · obtain ⟨c', r', q1, q2, q3, q4, q5⟩ := feed_L w (c0 := c) (r0 := r) k M c r hk8 h6 ⟨t1, t2, t3⟩ (fun _ _ _ => rfl) ⟨fun _ _ _ => rfl, fun _ _ => rfl⟩
        have e6 : nI (M + k) ≤ (600 : Int32) := nI_le (b := 600) h6 (by decide)
        exact ⟨_, c', r', by rw [if_pos e6, q1, bd_s], by rw [if_pos e6, q2], Inv_R q4 q5 hT hM hO q3 h6⟩
      · have e6 : ¬ nI (M + k) ≤ (600 : Int32) := nI_ge (a := 600) (by omega) (by omega)
        exact ⟨-3, c, r, by rw [if_neg e6, bd_s], by rw [if_neg e6], hI⟩
    · have hk8 : 8 < k := by
        by_cases h : k ≤ 8
        · exact absurd (nI_le (b := 8) h (by decide)) h8
        · omega
      exact ⟨-1, c, r, by rw [if_neg h1, if_neg h8, bd_s], by rw [m_in_hi h1 (show (8 : Int32) < nI k from nI_lt (a := 8) hk8 hk), ob_s, if_pos rfl], hI⟩
theorem x_byteAt {c : jS} {L i : Nat} (h : c 26 3 = nI L) (hL : L ≤ 4000) (hi : i < L) : xPrinter_byteAt c (nI i) = some (c 27 i &&& 255) := by
  unfold xPrinter_byteAt
  rw [h, if_neg (nI_pos (by omega)), if_neg (nI_ge hi (by omega)), if_neg (show ¬ (4000 : Int32) ≤ nI i from nI_ge (b := 4000) (by omega) (by decide)), gd_t (ix_nI (by omega) (by decide)), nI_clamp (by omega)]
/-- copy: the reference's tape is written first, its length last -/
theorem copy_L {c0 r0 : jS} {L : Nat} (hL : L ≤ 600) (p1 : c0 26 3 = nI L) (p2 : r0 30 33 = nI L) (p3 : ∀ i, i < L → r0 55 i = (c0 27 i &&& 255)) : ∀ (k i : Nat) (c r : jS), i + k = L → c 28 3 = nI i → (∀ j, j < i → r 59 j = (c 29 j &&& 255)) → fXR c0 c → fMR r0 r → ∃ c' r', xReader_takeFrom_L22 (nI L) (nI i) c = some (nI L, c') ∧ m_copy_L15 (nI i) r = some (nI L, r') ∧ Tp c' r' L ∧ fXR c0 c' ∧ fMR r0 r'
  | 0, i, c, r, h, h28, hp, hx, hm => by
    have hi : i = L := by omega
    subst hi
    have e33 : r 30 33 = nI i := by rw [hm.2 33 (by omega)]; exact p2
    refine ⟨c, su r 30 40 (nI i), ?_, ?_, ⟨h28, by rw [su_row, upd_s], hp⟩, hx, ⟨fun p h1 h2 => by rw [su_ne h1]; exact hm.1 p h1 h2, fun q hq => by rw [su_row, upd_n hq]; exact hm.2 q hq⟩⟩
    · unfold xReader_takeFrom_L22
      refine lp_inr ?_
      show xReader_takeFrom_S22 (nI i) (nI i) c = _
      unfold xReader_takeFrom_S22
      rw [if_pos (nI_le (Nat.le_refl _) (by omega)), h28]
    · unfold m_copy_L15
      refine lp_inr ?_
      show m_copy_S15 (nI i) r = _
      unfold m_copy_S15
      rw [e33, if_pos (nI_le (Nat.le_refl _) (by omega)), ltS, su_row, upd_s]
  | k + 1, i, c, r, h, h28, hp, hx, hm => by
    have e26 : c 26 3 = nI L := by rw [hx 26 (by omega) (by omega)]; exact p1
    have e27 : c 27 = c0 27 := hx 27 (by omega) (by omega)
    have e33 : r 30 33 = nI L := by rw [hm.2 33 (by omega)]; exact p2
    have e55 : r 55 = r0 55 := hm.1 55 (by omega) (by omega)
    obtain ⟨c', r', q1, q2, q3, q4, q5⟩ := copy_L hL p1 p2 p3 k (i + 1) (su (su c 29 i (vp_nar .byte (c 27 i &&& 255).toInt8.toInt32)) 28 3 (nI (i + 1))) (su r 59 i (r 55 i)) (by omega) (by rw [su_row, upd_s]) (fun j hj => by
      show upd (r 59) i _ j = (upd (c 29) i _ j &&& 255)
      by_cases hji : j = i
      · subst hji
        rw [upd_s, upd_s, byte_255, and255_255, e55, e27]
        exact p3 j (by omega)
      · rw [upd_n hji, upd_n hji]
        exact hp j (by omega)) (fXR_add hx) ⟨fun p h1 h2 => by rw [su_ne h2]; exact hm.1 p h1 h2, hm.2⟩
    refine ⟨c', r', ?_, ?_, q3, q4, q5⟩
    · rw [← q1]
      unfold xReader_takeFrom_L22
      refine lp_inl ?_
      show xReader_takeFrom_S22 (nI L) (nI i) c = _
      unfold xReader_takeFrom_S22
      rw [if_neg (nI_ge (by omega) (by omega)), x_byteAt e26 (by omega) (by omega), ob_s, x_add h28 (by omega), bd_s, nI_1]
    · rw [← q2]
      unfold m_copy_L15
      refine lp_inl ?_
      show m_copy_S15 (nI i) r = _
      unfold m_copy_S15
      rw [e33, if_neg (nI_ge (by omega) (by omega)), gd_t (ix_nI (by omega) (by decide)), gd_t (ix_nI (by omega) (by decide)), ltS, nI_clamp (by omega), nI_1]
theorem op_copy : Op_copy Inv := by
  intro c r hI
  obtain ⟨T, n, hT, hM, hO⟩ := id hI
  obtain ⟨L, hL, p1, p2, p3⟩ := hO.2.2.1
  unfold xc_copy m_copy xReader_takeFrom xPrinter_printLength
  rw [ob_s, p1, p2, ltS]
  by_cases h6 : L ≤ 600
  · have e6 : nI L ≤ (600 : Int32) := nI_le (b := 600) h6 (by decide)
    obtain ⟨c', r', q1, q2, q3, q4, q5⟩ := copy_L h6 p1 p2 p3 L 0 (su c 28 3 0) r (by omega) (by rw [su_row, upd_s]; rfl) (fun j hj => absurd hj (Nat.not_lt_zero j)) (fun p h1 h2 => su_ne h1) ⟨fun _ _ _ => rfl, fun _ _ => rfl⟩
    exact ⟨_, c', r', by rw [if_pos e6, show xReader_takeFrom_L22 (nI L) 0 (su c 28 3 0) = some (nI L, c') from q1, bd_s], by rw [if_pos e6]; exact q2, Inv_R q4 q5 hT hM hO q3 h6⟩
  · have e6 : ¬ nI L ≤ (600 : Int32) := nI_ge (a := 600) (by omega) (by omega)
    exact ⟨-3, c, r, by rw [if_neg e6, bd_s], by rw [if_neg e6], hI⟩
