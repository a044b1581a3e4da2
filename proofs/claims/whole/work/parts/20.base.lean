theorem ix_nI {n L : Nat} (h : n < L) (hL : L < 2 ^ 31) : ix (nI n) L = true := by
  unfold ix
  have h1 : ¬ nI n < 0 := nI_pos (by omega)
  have h2 : ¬ L ≤ n := by omega
  rw [nI_clamp (by omega)]
  simp only [h1, h2, decide_false, Bool.or_false, Bool.not_false]
theorem gd_t {α : Type} {b : Bool} {x : Option α} (h : b = true) : gd b x = x := by rw [h]; rfl
theorem ob_s {α β : Type} {a : α} {k : α → Option β} : ob (some a) k = k a := rfl
theorem bd_s {α β : Type} {a : α} {c : jS} {k : α → jS → Option β} : bd (some (a, c)) k = k a c := rfl
theorem ltS {α : Type} {x : jS} {k : jS → Option α} : lt x k = k x := rfl
theorem om_s {σ ρ : Type} {x : ρ} : (om (some x) : Option (σ ⊕ ρ)) = some (Sum.inr x) := rfl
theorem su_row {c : jS} {p k : Nat} {v : Int32} : su c p k v p = upd (c p) k v := by unfold su; rw [if_pos rfl]
theorem su_ne {c : jS} {p q k : Nat} {v : Int32} (h : q ≠ p) : su c p k v q = c q := by unfold su; rw [if_neg h]
theorem upd_s {f : Nat → Int32} {k : Nat} {v : Int32} : upd f k v k = v := by unfold upd; rw [if_pos rfl]
theorem upd_n {f : Nat → Int32} {k j : Nat} {v : Int32} (h : j ≠ k) : upd f k v j = f j := by unfold upd; rw [if_neg h]
theorem nI_subI {a b : Nat} (h : b ≤ a) : nI a - nI b = nI (a - b) := (Int32.ofNat_sub a b h).symm
theorem nI_mulI (a b : Nat) : nI a * nI b = nI (a * b) := (Int32.ofNat_mul a b).symm
theorem nI_ne {a : Nat} {v : Int32} (h : a < 2 ^ 31) (hv : v < 0) : nI a ≠ v := by
  intro e
  have := nI_pos h
  rw [e] at this
  exact this hv
theorem ne_nI {a : Nat} {v : Int32} (h : a < 2 ^ 31) (hv : v < 0) : v ≠ nI a := fun e => nI_ne h hv e.symm
theorem m1_lt {j : Nat} (h : j < 2 ^ 31) : (-1 : Int32) < nI j := by
  rw [Int32.lt_iff_toInt_lt, nI_toInt h]
  have : (-1 : Int32).toInt = -1 := by decide
  omega

theorem x_has_t {c : jS} {n t : Nat} (hn : c 5 12 = nI n) (h4 : n ≤ 400) (ht : t < n) : xTerms_has c (nI t) = some 1 := by
  unfold xTerms_has
  rw [hn, if_neg (nI_pos (by omega)), if_neg (nI_ge ht (by omega)), if_neg (show ¬ (400 : Int32) ≤ nI t from nI_ge (b := 400) (by omega) (by decide))]
theorem x_has_m {c : jS} : xTerms_has c (-2) = some 0 := by
  unfold xTerms_has
  rw [if_pos (by decide)]
theorem xt_has_t {c : jS} {n t : Nat} (hn : c 1 3 = nI n) (h4 : n ≤ 40) (ht : t < n) : xTypes_has c (nI t) = some 1 := by
  unfold xTypes_has
  rw [hn, if_neg (nI_pos (by omega)), if_neg (nI_ge ht (by omega)), if_neg (show ¬ (40 : Int32) ≤ nI t from nI_ge (b := 40) (by omega) (by decide))]
theorem xt_has_m {c : jS} : xTypes_has c (-2) = some 0 := by
  unfold xTypes_has
  rw [if_pos (by decide)]

theorem x_kindOf_t {c : jS} {n t : Nat} (hn : c 5 12 = nI n) (h4 : n ≤ 400) (ht : t < n) : xTerms_kindOf c (nI t) = some (c 6 t) := by
  unfold xTerms_kindOf
  rw [x_has_t hn h4 ht, ob_s, if_neg (by decide), gd_t (ix_nI (by omega) (by decide)), nI_clamp (by omega)]
theorem x_kindOf_m {c : jS} : xTerms_kindOf c (-2) = some (-2) := by
  unfold xTerms_kindOf
  rw [x_has_m, ob_s, if_pos rfl]

theorem x_numberOf_t {c : jS} {n t : Nat} (hn : c 5 12 = nI n) (h4 : n ≤ 400) (ht : t < n) : xTerms_numberOf c (nI t) = some (c 7 t) := by
  unfold xTerms_numberOf
  rw [x_has_t hn h4 ht, ob_s, if_neg (by decide), gd_t (ix_nI (by omega) (by decide)), nI_clamp (by omega)]
theorem x_numberOf_m {c : jS} : xTerms_numberOf c (-2) = some (0) := by
  unfold xTerms_numberOf
  rw [x_has_m, ob_s, if_pos rfl]

theorem x_letterOf_t {c : jS} {n t : Nat} (hn : c 5 12 = nI n) (h4 : n ≤ 400) (ht : t < n) : xTerms_letterOf c (nI t) = some (c 8 t) := by
  unfold xTerms_letterOf
  rw [x_has_t hn h4 ht, ob_s, if_neg (by decide), gd_t (ix_nI (by omega) (by decide)), nI_clamp (by omega)]
theorem x_letterOf_m {c : jS} : xTerms_letterOf c (-2) = some (-2) := by
  unfold xTerms_letterOf
  rw [x_has_m, ob_s, if_pos rfl]

theorem x_typeOf_t {c : jS} {n t : Nat} (hn : c 5 12 = nI n) (h4 : n ≤ 400) (ht : t < n) : xTerms_typeOf c (nI t) = some (c 9 t) := by
  unfold xTerms_typeOf
  rw [x_has_t hn h4 ht, ob_s, if_neg (by decide), gd_t (ix_nI (by omega) (by decide)), nI_clamp (by omega)]
theorem x_typeOf_m {c : jS} : xTerms_typeOf c (-2) = some (-2) := by
  unfold xTerms_typeOf
  rw [x_has_m, ob_s, if_pos rfl]

theorem x_firstOf_t {c : jS} {n t : Nat} (hn : c 5 12 = nI n) (h4 : n ≤ 400) (ht : t < n) : xTerms_firstOf c (nI t) = some (c 10 t) := by
  unfold xTerms_firstOf
  rw [x_has_t hn h4 ht, ob_s, if_neg (by decide), gd_t (ix_nI (by omega) (by decide)), nI_clamp (by omega)]
theorem x_firstOf_m {c : jS} : xTerms_firstOf c (-2) = some (-2) := by
  unfold xTerms_firstOf
  rw [x_has_m, ob_s, if_pos rfl]

theorem x_secondOf_t {c : jS} {n t : Nat} (hn : c 5 12 = nI n) (h4 : n ≤ 400) (ht : t < n) : xTerms_secondOf c (nI t) = some (c 11 t) := by
  unfold xTerms_secondOf
  rw [x_has_t hn h4 ht, ob_s, if_neg (by decide), gd_t (ix_nI (by omega) (by decide)), nI_clamp (by omega)]
theorem x_secondOf_m {c : jS} : xTerms_secondOf c (-2) = some (-2) := by
  unfold xTerms_secondOf
  rw [x_has_m, ob_s, if_pos rfl]

theorem x_thirdOf_t {c : jS} {n t : Nat} (hn : c 5 12 = nI n) (h4 : n ≤ 400) (ht : t < n) : xTerms_thirdOf c (nI t) = some (c 12 t) := by
  unfold xTerms_thirdOf
  rw [x_has_t hn h4 ht, ob_s, if_neg (by decide), gd_t (ix_nI (by omega) (by decide)), nI_clamp (by omega)]
theorem x_thirdOf_m {c : jS} : xTerms_thirdOf c (-2) = some (-2) := by
  unfold xTerms_thirdOf
  rw [x_has_m, ob_s, if_pos rfl]

theorem x_sizeOf_t {c : jS} {n t : Nat} (hn : c 5 12 = nI n) (h4 : n ≤ 400) (ht : t < n) : xTerms_sizeOf c (nI t) = some (c 13 t) := by
  unfold xTerms_sizeOf
  rw [x_has_t hn h4 ht, ob_s, if_neg (by decide), gd_t (ix_nI (by omega) (by decide)), nI_clamp (by omega)]
theorem x_sizeOf_m {c : jS} : xTerms_sizeOf c (-2) = some (0) := by
  unfold xTerms_sizeOf
  rw [x_has_m, ob_s, if_pos rfl]

theorem x_depthOf_t {c : jS} {n t : Nat} (hn : c 5 12 = nI n) (h4 : n ≤ 400) (ht : t < n) : xTerms_depthOf c (nI t) = some (c 14 t) := by
  unfold xTerms_depthOf
  rw [x_has_t hn h4 ht, ob_s, if_neg (by decide), gd_t (ix_nI (by omega) (by decide)), nI_clamp (by omega)]
theorem x_depthOf_m {c : jS} : xTerms_depthOf c (-2) = some (0) := by
  unfold xTerms_depthOf
  rw [x_has_m, ob_s, if_pos rfl]

theorem x_freeLettersOf_t {c : jS} {n t : Nat} (hn : c 5 12 = nI n) (h4 : n ≤ 400) (ht : t < n) : xTerms_freeLettersOf c (nI t) = some (c 15 t) := by
  unfold xTerms_freeLettersOf
  rw [x_has_t hn h4 ht, ob_s, if_neg (by decide), gd_t (ix_nI (by omega) (by decide)), nI_clamp (by omega)]
theorem x_freeLettersOf_m {c : jS} : xTerms_freeLettersOf c (-2) = some (0) := by
  unfold xTerms_freeLettersOf
  rw [x_has_m, ob_s, if_pos rfl]

theorem x_widthOf_t {c : jS} {n t : Nat} (hn : c 5 12 = nI n) (h4 : n ≤ 400) (ht : t < n) : xTerms_widthOf c (nI t) = some (c 16 t) := by
  unfold xTerms_widthOf
  rw [x_has_t hn h4 ht, ob_s, if_neg (by decide), gd_t (ix_nI (by omega) (by decide)), nI_clamp (by omega)]
theorem x_widthOf_m {c : jS} : xTerms_widthOf c (-2) = some (0) := by
  unfold xTerms_widthOf
  rw [x_has_m, ob_s, if_pos rfl]

theorem xt_fromOf_t {c : jS} {n t : Nat} (hn : c 1 3 = nI n) (h4 : n ≤ 40) (ht : t < n) : xTypes_fromOf c (nI t) = some (c 2 t) := by
  unfold xTypes_fromOf
  rw [xt_has_t hn h4 ht, ob_s, if_neg (by decide), gd_t (ix_nI (by omega) (by decide)), nI_clamp (by omega)]
theorem xt_fromOf_m {c : jS} : xTypes_fromOf c (-2) = some (-2) := by
  unfold xTypes_fromOf
  rw [xt_has_m, ob_s, if_pos rfl]

theorem xt_toOf_t {c : jS} {n t : Nat} (hn : c 1 3 = nI n) (h4 : n ≤ 40) (ht : t < n) : xTypes_toOf c (nI t) = some (c 3 t) := by
  unfold xTypes_toOf
  rw [xt_has_t hn h4 ht, ob_s, if_neg (by decide), gd_t (ix_nI (by omega) (by decide)), nI_clamp (by omega)]
theorem xt_toOf_m {c : jS} : xTypes_toOf c (-2) = some (-2) := by
  unfold xTypes_toOf
  rw [xt_has_m, ob_s, if_pos rfl]

theorem xt_lengthOf_t {c : jS} {n t : Nat} (hn : c 1 3 = nI n) (h4 : n ≤ 40) (ht : t < n) : xTypes_lengthOf c (nI t) = some (c 4 t) := by
  unfold xTypes_lengthOf
  rw [xt_has_t hn h4 ht, ob_s, if_neg (by decide), gd_t (ix_nI (by omega) (by decide)), nI_clamp (by omega)]
theorem xt_lengthOf_m {c : jS} : xTypes_lengthOf c (-2) = some (0) := by
  unfold xTypes_lengthOf
  rw [xt_has_m, ob_s, if_pos rfl]

theorem x_bit_t {c : jS} {x : Nat} (h : x < 26) : xTerms_bit c (nI x) = some ((1 : Int32) <<< (nI x &&& 31)) := by
  unfold xTerms_bit
  rw [if_neg (nI_pos (by omega)), if_neg (show ¬ (26 : Int32) ≤ nI x from nI_ge (b := 26) (by omega) (by decide))]
theorem x_bit_m {c : jS} : xTerms_bit c (-2) = some 0 := by
  unfold xTerms_bit
  rw [if_pos (by decide)]
theorem x_isL_t {c : jS} {x : Nat} (h : x < 26) : xc_isLetter c (nI x) = some 1 := by
  unfold xc_isLetter
  rw [if_neg (nI_pos (by omega)), if_neg (show ¬ (26 : Int32) ≤ nI x from nI_ge (b := 26) (by omega) (by decide))]
theorem m_in_t {r : jS} {a b x : Nat} (h1 : a ≤ x) (h2 : x ≤ b) (hb : b < 2 ^ 31) : m_in r (nI x) (nI a) (nI b) = some 1 := by
  unfold m_in
  rw [if_neg (nI_nlt h1 (by omega)), if_neg (nI_nlt h2 hb)]
theorem m_isL_t {r : jS} {x : Nat} (h : x < 26) : m_isLetter r (nI x) = some 1 := by
  unfold m_isLetter
  rw [show m_in r (nI x) 0 25 = some 1 from m_in_t (a := 0) (b := 25) (by omega) (by omega) (by decide), ob_s]
  rfl
theorem m_isTerm_t {r : jS} {n t : Nat} (hn : r 30 5 = nI n) (h4 : n ≤ 400) (ht : t < n) : m_isTerm r (nI t) = some 1 := by
  unfold m_isTerm
  rw [hn, show nI n - 1 = nI (n - 1) from nI_subI (b := 1) (by omega), show m_in r (nI t) 0 (nI (n - 1)) = some 1 from m_in_t (a := 0) (by omega) (by omega) (by omega), ob_s]
  rfl
theorem m_isType_t {r : jS} {n t : Nat} (hn : r 30 0 = nI n) (h4 : n ≤ 40) (ht : t < n) : m_isType r (nI t) = some 1 := by
  unfold m_isType
  rw [hn, show nI n - 1 = nI (n - 1) from nI_subI (b := 1) (by omega), show m_in r (nI t) 0 (nI (n - 1)) = some 1 from m_in_t (a := 0) (by omega) (by omega) (by omega), ob_s]
  rfl
theorem m_in_lo {r : jS} {x a b : Int32} (h : x < a) : m_in r x a b = some 0 := by
  unfold m_in
  rw [if_pos h]
theorem m_in_hi {r : jS} {x a b : Int32} (h0 : ¬ x < a) (h : b < x) : m_in r x a b = some 0 := by
  unfold m_in
  rw [if_neg h0, if_pos h]
theorem term_cases {c r : jS} {n : Nat} (hc : c 5 12 = nI n) (hr : r 30 5 = nI n) (h4 : n ≤ 400) (a : Int32) : (∃ t, t < n ∧ a = nI t ∧ xTerms_has c a = some 1 ∧ m_isTerm r a = some 1) ∨ (xTerms_has c a = some 0 ∧ m_isTerm r a = some 0) := by
  by_cases h0 : a < 0
  · right
    unfold xTerms_has m_isTerm
    rw [if_pos h0, m_in_lo h0, ob_s]
    exact ⟨rfl, rfl⟩
  · obtain ⟨j, hj, rfl⟩ := nI_of h0
    by_cases hjn : j < n
    · left
      exact ⟨j, hjn, rfl, x_has_t hc h4 hjn, m_isTerm_t hr h4 hjn⟩
    · right
      unfold xTerms_has m_isTerm
      rw [hc, hr, if_neg h0, if_pos (nI_le (by omega) hj)]
      have e : m_in r (nI j) 0 (nI n - 1) = some 0 := by
        refine m_in_hi h0 ?_
        by_cases hn : n = 0
        · subst hn
          exact m1_lt hj
        · rw [show nI n - 1 = nI (n - 1) from nI_subI (b := 1) (by omega)]
          exact nI_lt (by omega) hj
      rw [e, ob_s]
      exact ⟨rfl, rfl⟩
theorem type_cases {c r : jS} {n : Nat} (hc : c 1 3 = nI n) (hr : r 30 0 = nI n) (h4 : n ≤ 40) (a : Int32) : (∃ t, t < n ∧ a = nI t ∧ xTypes_has c a = some 1 ∧ m_isType r a = some 1) ∨ (xTypes_has c a = some 0 ∧ m_isType r a = some 0) := by
  by_cases h0 : a < 0
  · right
    unfold xTypes_has m_isType
    rw [if_pos h0, m_in_lo h0, ob_s]
    exact ⟨rfl, rfl⟩
  · obtain ⟨j, hj, rfl⟩ := nI_of h0
    by_cases hjn : j < n
    · left
      exact ⟨j, hjn, rfl, xt_has_t hc h4 hjn, m_isType_t hr h4 hjn⟩
    · right
      unfold xTypes_has m_isType
      rw [hc, hr, if_neg h0, if_pos (nI_le (by omega) hj)]
      have e : m_in r (nI j) 0 (nI n - 1) = some 0 := by
        refine m_in_hi h0 ?_
        by_cases hn : n = 0
        · subst hn
          exact m1_lt hj
        · rw [show nI n - 1 = nI (n - 1) from nI_subI (b := 1) (by omega)]
          exact nI_lt (by omega) hj
      rw [e, ob_s]
      exact ⟨rfl, rfl⟩
theorem letter_cases {c r : jS} (a : Int32) : (∃ x, x < 26 ∧ a = nI x ∧ xc_isLetter c a = some 1 ∧ m_isLetter r a = some 1) ∨ (xc_isLetter c a = some 0 ∧ m_isLetter r a = some 0) := by
  by_cases h0 : a < 0
  · right
    unfold xc_isLetter m_isLetter
    rw [if_pos h0, m_in_lo h0, ob_s]
    exact ⟨rfl, rfl⟩
  · obtain ⟨j, hj, rfl⟩ := nI_of h0
    by_cases hjn : j < 26
    · left
      exact ⟨j, hjn, rfl, x_isL_t hjn, m_isL_t hjn⟩
    · right
      unfold xc_isLetter m_isLetter
      rw [if_neg h0, if_pos (show (26 : Int32) ≤ nI j from nI_le (a := 26) (by omega) hj), m_in_hi h0 (show (25 : Int32) < nI j from nI_lt (a := 25) (by omega) hj), ob_s]
      exact ⟨rfl, rfl⟩
