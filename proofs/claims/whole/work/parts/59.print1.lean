theorem a255 : ∀ x, x < 256 → (nI x &&& (255 : Int32)) = nI x := by decide +kernel
/-- the class has written the list behind place L -/
def WX (c c' : jS) (L : Nat) (l : List Nat) : Prop := (∀ p, p ≠ 26 → p ≠ 27 → c' p = c p) ∧ c' 26 3 = nI (L + l.length) ∧ (∀ i, i < L → c' 27 i = c 27 i) ∧ ∀ (i x : Nat), l[i]? = some x → (c' 27 (L + i) &&& 255) = nI x
theorem WX_nil {c : jS} {L : Nat} (h : c 26 3 = nI L) : WX c c L [] := ⟨fun _ _ _ => rfl, h, fun _ _ => rfl, fun i x h => by simp at h⟩
theorem WX.tr {c c1 c2 : jS} {L : Nat} {l1 l2 : List Nat} (h : WX c c1 L l1) (h' : WX c1 c2 (L + l1.length) l2) : WX c c2 L (l1 ++ l2) := by
  obtain ⟨a1, a2, a3, a4⟩ := h
  obtain ⟨b1, b2, b3, b4⟩ := h'
  refine ⟨fun p h1 h2 => (b1 p h1 h2).trans (a1 p h1 h2), ?_, fun i hi => (b3 i (by omega)).trans (a3 i hi), ?_⟩
  · rw [b2, List.length_append, Nat.add_assoc]
  · intro i x hx
    rw [List.getElem?_append] at hx
    by_cases hi : i < l1.length
    · rw [if_pos hi] at hx
      rw [b3 _ (by omega)]
      exact a4 i x hx
    · rw [if_neg hi] at hx
      have := b4 (i - l1.length) x hx
      rw [show L + l1.length + (i - l1.length) = L + i by omega] at this
      exact this
theorem w_1 {c : jS} {L x : Nat} (h : c 26 3 = nI L) (hL : L < 4000) (hx : x < 128) : ∃ c', xPrinter_write c (nI x) = some ((), c') ∧ WX c c' L [x] := by
  refine ⟨su (su c 27 L (vp_nar .byte (nI x).toInt8.toInt32)) 26 3 (nI (L + 1)), ?_, fun p h1 h2 => by rw [su_ne h1, su_ne h2], ?_, fun i hi => ?_, ?_⟩
  · unfold xPrinter_write
    rw [h, if_neg (nI_pos (by omega)), if_neg (show ¬ (4000 : Int32) ≤ nI L from nI_ge (b := 4000) hL (by decide)), gd_t (ix_nI hL (by decide)), ltS, ltS, nI_clamp (by omega), show (su c 27 L (vp_nar .byte (nI x).toInt8.toInt32)) 26 3 = nI L from h, nI_1]
  · rw [su_row, upd_s]; rfl
  · rw [su_ne (by omega), su_row, upd_n (by omega)]
  · intro i y hy
    have hi : i = 0 := by
      cases i with
      | zero => rfl
      | succ i => simp at hy
    subst hi
    simp at hy
    subst hy
    rw [show L + 0 = L from rfl, su_ne (by omega), su_row, upd_s, byte_255, a255 x (by omega)]
def PG (r : jS) (L : Nat) : Prop := r 30 35 = nI (min 4000 L) ∧ r 30 36 = (if 4000 < L then 1 else 0)
/-- the reference has said the list behind place L -/
def S0 (r r' : jS) (L : Nat) (l : List Nat) : Prop := (∀ q, q ≠ 30 → q < 56 ∨ 58 < q → r' q = r q) ∧ (∀ k, k ≠ 35 → k ≠ 36 → r' 30 k = r 30 k) ∧ PG r' (L + l.length) ∧ (∀ i, i < L → r' 56 i = r 56 i) ∧ ∀ (i x : Nat), l[i]? = some x → L + i < 4000 → r' 56 (L + i) = nI x
theorem S0_nil {r : jS} {L : Nat} (h : PG r L) : S0 r r L [] := ⟨fun _ _ _ => rfl, fun _ _ _ => rfl, h, fun _ _ => rfl, fun i x h => by simp at h⟩
theorem S0.tr {c c1 c2 : jS} {L : Nat} {l1 l2 : List Nat} (h : S0 c c1 L l1) (h' : S0 c1 c2 (L + l1.length) l2) : S0 c c2 L (l1 ++ l2) := by
  obtain ⟨a1, a2, a3, a4, a5⟩ := h
  obtain ⟨b1, b2, b3, b4, b5⟩ := h'
  refine ⟨fun p h1 h2 => (b1 p h1 h2).trans (a1 p h1 h2), fun k h1 h2 => (b2 k h1 h2).trans (a2 k h1 h2), ?_, fun i hi => (b4 i (by omega)).trans (a4 i hi), ?_⟩
  · rw [List.length_append, ← Nat.add_assoc]; exact b3
  · intro i x hx hi4
    rw [List.getElem?_append] at hx
    by_cases hi : i < l1.length
    · rw [if_pos hi] at hx
      rw [b4 _ (by omega)]
      exact a5 i x hx hi4
    · rw [if_neg hi] at hx
      have := b5 (i - l1.length) x hx (by omega)
      rw [show L + l1.length + (i - l1.length) = L + i by omega] at this
      exact this
theorem say_1 {r : jS} {L x : Nat} (h : PG r L) (hx : x < 128) : ∃ r', m_say r (nI x) = some ((), r') ∧ S0 r r' L [x] := by
  obtain ⟨h1, h2⟩ := h
  by_cases hL : L < 4000
  · have hm : min 4000 L = L := by omega
    rw [hm] at h1
    refine ⟨su (su r 56 L (nI x)) 30 35 (nI (L + 1)), ?_, fun q g1 g2 => by rw [su_ne g1, su_ne (by omega)], fun k g1 g2 => by rw [su_row, upd_n g1, su_ne (by omega)], ⟨?_, ?_⟩, fun i hi => by rw [su_ne (by omega), su_row, upd_n (by omega)], ?_⟩
    · unfold m_say
      rw [h1, if_neg (show ¬ nI L = (4000 : Int32) from fun e => absurd ((nI_eq (b := 4000) (by omega) (by decide)).mp e) (by omega)), gd_t (ix_nI hL (by decide)), ltS, ltS, nI_clamp (by omega), show (su r 56 L (nI x)) 30 35 = nI L from h1, nI_1]
    · rw [su_row, upd_s]
      show nI (L + 1) = nI (min 4000 (L + 1))
      rw [show min 4000 (L + 1) = L + 1 by omega]
    · rw [su_row, upd_n (by omega), su_ne (by omega), h2, if_neg (by omega)]
      show _ = if 4000 < L + 1 then _ else _
      rw [if_neg (by omega)]
    · intro i y hy hi4
      have hi : i = 0 := by
        cases i with
        | zero => rfl
        | succ i => simp at hy
      subst hi
      simp at hy
      subst hy
      rw [show L + 0 = L from rfl, su_ne (by omega), su_row, upd_s]
  · have hm : min 4000 L = 4000 := by omega
    rw [hm] at h1
    refine ⟨su r 30 36 1, ?_, fun q g1 g2 => by rw [su_ne g1], fun k g1 g2 => by rw [su_row, upd_n g2], ⟨?_, ?_⟩, fun i hi => by rw [su_ne (by omega)], ?_⟩
    · unfold m_say
      rw [h1, if_pos (by decide), ltS]
    · rw [su_row, upd_n (by omega), h1]
      show nI 4000 = nI (min 4000 (L + 1))
      rw [show min 4000 (L + 1) = 4000 by omega]
    · rw [su_row, upd_s]
      show _ = if 4000 < L + 1 then _ else _
      rw [if_pos (by omega)]
    · intro i y hy hi4
      omega
/-- digits -/
def dlR (V : Nat) : Nat → List Nat
  | 0 => [48 + V % 10]
  | k + 1 => (48 + V / 10 ^ (k + 1) % 10) :: dlR V k
theorem dlR_len (V : Nat) : ∀ k, (dlR V k).length = k + 1
  | 0 => rfl
  | k + 1 => by show (dlR V k).length + 1 = _; rw [dlR_len V k]
theorem dlR_at (V : Nat) : ∀ (k i x : Nat), (dlR V k)[i]? = some x → i ≤ k ∧ x = 48 + V / 10 ^ (k - i) % 10
  | 0, i, x, h => by
    cases i with
    | zero => simp [dlR] at h; subst h; simp
    | succ i => simp [dlR] at h
  | k + 1, i, x, h => by
    cases i with
    | zero => simp [dlR] at h; subst h; simp
    | succ i =>
      have h' : (dlR V k)[i]? = some x := by simpa [dlR] using h
      obtain ⟨a, b⟩ := dlR_at V k i x h'
      refine ⟨by omega, ?_⟩
      rw [show k + 1 - (i + 1) = k - i by omega]
      exact b
def dgl (v : Int32) : List Nat := if v < 0 then 45 :: dlR v.toInt.natAbs (nd0 10 (v.toInt.natAbs / 10)) else dlR v.toInt.natAbs (nd0 10 (v.toInt.natAbs / 10))
theorem dgl_len (v : Int32) : (dgl v).length = dgN v := by
  unfold dgl dgN
  by_cases h : v < 0
  · rw [if_pos h, if_pos h, List.length_cons, dlR_len]; omega
  · rw [if_neg h, if_neg h, dlR_len]; omega
theorem nd0_spec : ∀ (f m : Nat), m < 10 ^ f → m / 10 ^ (nd0 f m) = 0 ∧ ∀ j, j < nd0 f m → m / 10 ^ j ≠ 0
  | 0, m, h => by
    have : m = 0 := by simpa using h
    subst this
    exact ⟨by simp [nd0], fun j hj => by simp [nd0] at hj⟩
  | f + 1, m, h => by
    unfold nd0
    by_cases h0 : m = 0
    · subst h0
      rw [if_pos rfl]
      exact ⟨by simp, fun j hj => by omega⟩
    · rw [if_neg h0]
      obtain ⟨a, b⟩ := nd0_spec f (m / 10) (by rw [Nat.pow_succ] at h; omega)
      refine ⟨?_, ?_⟩
      · rw [Nat.pow_succ, Nat.mul_comm, ← Nat.div_div_eq_div_mul]; exact a
      · intro j hj
        cases j with
        | zero => simpa using h0
        | succ j =>
          rw [Nat.pow_succ, Nat.mul_comm, ← Nat.div_div_eq_div_mul]
          exact b j (by omega)
theorem abs_lt (v : Int32) : v.toInt.natAbs ≤ 2 ^ 31 := by
  have h1 := v.toInt_lt
  have h2 := v.le_toInt
  omega
theorem pow_le9 : ∀ k, k ≤ 10 → 10 ^ k < 2 ^ 40 := by decide
theorem nd_bounds {V : Nat} (hV : V ≤ 2 ^ 31) : V / 10 ^ (nd0 10 (V / 10)) ≤ 9 ∧ ∀ j, j < nd0 10 (V / 10) → 9 < V / 10 ^ j := by
  obtain ⟨a, b⟩ := nd0_spec 10 (V / 10) (by omega)
  refine ⟨?_, fun j hj => ?_⟩
  · rw [Nat.div_div_eq_div_mul, Nat.mul_comm, ← Nat.div_div_eq_div_mul] at a
    omega
  · have := b j hj
    rw [Nat.div_div_eq_div_mul, Nat.mul_comm, ← Nat.div_div_eq_div_mul] at this
    generalize V / 10 ^ j = z at this ⊢
    omega
theorem nz_pow {k : Nat} (hk : k ≤ 10) : nz64 (lN (10 ^ k)) = true := by
  unfold nz64
  have h := pow_le9 k hk
  have hp : 0 < 10 ^ k := Nat.pow_pos (by omega)
  have : ¬ lN (10 ^ k) = 0 := fun e => by
    have := (pk_lEQ (b := 0) (by omega) (by decide)).mp e
    omega
  simp [this]
theorem nz_10 : nz64 (10 : Int64) = true := by decide
theorem sn_43 {V : Nat} (hV : V ≤ 2 ^ 31) : ∀ (k : Nat) (r : jS) (L : Nat), k ≤ 10 → PG r L → ∃ r', m_sayNumber_L43 (lN V) (lN (10 ^ k)) r = some ((), r') ∧ S0 r r' L (dlR V k)
  | 0, r, L, hk, h => by
    obtain ⟨r1, e1, s1⟩ := say_1 (x := 48 + V % 10) h (by omega)
    refine ⟨r1, ?_, s1⟩
    have a : m_sayNumber_L43 (lN V) (lN (10 ^ 0)) r = m_sayNumber_L43 (lN V) (lN 0) r1 := by
      unfold m_sayNumber_L43
      refine lp_inl ?_
      show m_sayNumber_S43 (lN V) (lN (10 ^ 0)) r = _
      unfold m_sayNumber_S43
      rw [if_neg (by decide), gd_t (nz_pow (by omega)), gd_t nz_10, show (10 : Int64) = lN 10 from rfl, pk_lDiv (by omega) (by decide) (by decide), pk_lRem (by have := Nat.div_le_self V (10 ^ 0); omega) (by decide) (by decide), lN_i, show (48 : Int32) = nI 48 from rfl, nI_add, show 48 + V / 10 ^ 0 % 10 = 48 + V % 10 by simp, e1, bd_s, gd_t (show nz64 (lN 10) = true from nz_10)]
      rfl
    rw [a]
    unfold m_sayNumber_L43
    refine lp_inr ?_
    show m_sayNumber_S43 (lN V) (lN 0) r1 = _
    unfold m_sayNumber_S43
    rw [if_pos (by decide)]
  | k + 1, r, L, hk, h => by
    have hp := pow_le9 (k + 1) hk
    have hp0 : 0 < 10 ^ (k + 1) := Nat.pow_pos (by omega)
    obtain ⟨r1, e1, s1⟩ := say_1 (x := 48 + V / 10 ^ (k + 1) % 10) h (by omega)
    obtain ⟨r2, e2, s2⟩ := sn_43 hV k r1 (L + 1) (by omega) s1.2.2.1
    refine ⟨r2, Eq.trans ?_ e2, s1.tr s2⟩
    unfold m_sayNumber_L43
    refine lp_inl ?_
    show m_sayNumber_S43 (lN V) (lN (10 ^ (k + 1))) r = _
    unfold m_sayNumber_S43
    have hd := Nat.div_le_self V (10 ^ (k + 1))
    rw [if_neg (fun e => by rw [lg_cmp_le] at e; have := (pk_lLE (a := 10 ^ (k + 1)) (b := 0) (by omega) (by decide)).mp e; omega), gd_t (nz_pow hk), gd_t nz_10, show (10 : Int64) = lN 10 from rfl, pk_lDiv (by omega) hp0 (by omega), pk_lRem (by omega) (by decide) (by decide), lN_i, show (48 : Int32) = nI 48 from rfl, nI_add, e1, bd_s, gd_t (show nz64 (lN 10) = true from nz_10), pk_lDiv (by omega) (by decide) (by decide), show 10 ^ (k + 1) / 10 = 10 ^ k from (by rw [Nat.pow_succ]; omega)]
theorem sn_21 {V : Nat} (hV : V ≤ 2 ^ 31) : ∀ (m k : Nat) (r : jS), k + m = nd0 10 (V / 10) → m_sayNumber_L21 (lN V) (lN (10 ^ k)) r = m_sayNumber_L43 (lN V) (lN (10 ^ (nd0 10 (V / 10)))) r
  | 0, k, r, hk => by
    have hle := nd0_le 10 (V / 10)
    have hp := pow_le9 k (by omega)
    have hp0 : 0 < 10 ^ k := Nat.pow_pos (by omega)
    have hd := Nat.div_le_self V (10 ^ k)
    have hb := (nd_bounds hV).1
    rw [← hk, Nat.add_zero] at hb ⊢
    unfold m_sayNumber_L21
    refine lp_om ?_
    show m_sayNumber_S21 (lN V) (lN (10 ^ k)) r = _
    unfold m_sayNumber_S21
    rw [gd_t (nz_pow (by omega)), pk_lDiv (by omega) hp0 (by omega), if_pos (show lg_cmp (lN (V / 10 ^ k)) 9 ≤ 0 from (lg_cmp_le _ _).mpr ((pk_lLE (a := V / 10 ^ k) (b := 9) (by omega) (by decide)).mpr hb))]
  | m + 1, k, r, hk => by
    have hle := nd0_le 10 (V / 10)
    have hp := pow_le9 k (by omega)
    have hp0 : 0 < 10 ^ k := Nat.pow_pos (by omega)
    have hd := Nat.div_le_self V (10 ^ k)
    have hb := (nd_bounds hV).2 k (by omega)
    rw [← sn_21 hV m (k + 1) r (by omega)]
    unfold m_sayNumber_L21
    refine lp_inl ?_
    show m_sayNumber_S21 (lN V) (lN (10 ^ k)) r = _
    unfold m_sayNumber_S21
    rw [gd_t (nz_pow (by omega)), pk_lDiv (by omega) hp0 (by omega), if_neg (fun e => by rw [lg_cmp_le] at e; have := (pk_lLE (a := V / 10 ^ k) (b := 9) (by omega) (by decide)).mp e; omega), show (10 : Int64) = lN 10 from rfl, lN_mul, ← Nat.pow_succ]
theorem abs_l (v : Int32) : (if v < 0 then - v.toInt64 else v.toInt64) = lN v.toInt.natAbs := by
  have ha := abs_lt v
  apply Int64.toInt_inj.mp
  rw [pk_lT (by omega)]
  by_cases h : v < 0
  · rw [if_pos h]
    rw [Int32.lt_iff_toInt_lt, show (0 : Int32).toInt = 0 from rfl] at h
    rw [Int64.toInt_neg, Int32.toInt_toInt64]
    have h2 := v.le_toInt
    rw [Int.bmod_eq_of_le (by omega) (by omega)]
    omega
  · rw [if_neg h]
    rw [Int32.lt_iff_toInt_lt, show (0 : Int32).toInt = 0 from rfl] at h
    rw [Int32.toInt_toInt64]
    omega
theorem l0 (v : Int32) : (0 : Int64) ≤ v.toInt64 ↔ ¬ v < 0 := by
  rw [Int64.le_iff_toInt_le, Int32.toInt_toInt64, Int32.lt_iff_toInt_lt, show (0 : Int64).toInt = 0 from rfl, show (0 : Int32).toInt = 0 from rfl]
  omega
theorem say_num {r : jS} {L : Nat} (v : Int32) (h : PG r L) : ∃ r', m_sayNumber r v = some ((), r') ∧ S0 r r' L (dgl v) := by
  have ha := abs_lt v
  have hal := abs_l v
  have hle := nd0_le 10 (v.toInt.natAbs / 10)
  unfold m_sayNumber dgl
  by_cases hv : v < 0
  · rw [if_pos hv] at hal
    obtain ⟨r1, e1, s1⟩ := say_1 (x := 45) h (by omega)
    obtain ⟨r2, e2, s2⟩ := sn_43 ha (nd0 10 (v.toInt.natAbs / 10)) r1 (L + 1) hle s1.2.2.1
    refine ⟨r2, ?_, ?_⟩
    · rw [if_neg (fun e => by rw [lg_cmp_ge] at e; exact (l0 v).mp e hv), show (45 : Int32) = nI 45 from rfl, e1, bd_s, hal, show (1 : Int64) = lN (10 ^ 0) from rfl, sn_21 ha _ 0 r1 (Nat.zero_add _), e2]
    · rw [if_pos hv]
      exact s1.tr s2
  · rw [if_neg hv] at hal
    obtain ⟨r2, e2, s2⟩ := sn_43 ha (nd0 10 (v.toInt.natAbs / 10)) r L hle h
    refine ⟨r2, ?_, ?_⟩
    · rw [if_pos ((lg_cmp_ge _ _).mpr ((l0 v).mpr hv)), hal, show (1 : Int64) = lN (10 ^ 0) from rfl, sn_21 ha _ 0 r (Nat.zero_add _), e2]
    · rw [if_neg hv]
      exact s2
