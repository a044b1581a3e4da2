/-- the byte at place P -/
def bt (c : jS) (P M : Nat) : Option Nat := if P < M then some ((c 29 P &&& 255).toNatClampNeg) else none
def bx : Option Nat → Int32
  | none => -2
  | some b => nI b
def bm : Option Nat → Int32
  | none => -1
  | some b => nI b
theorem bt_lo {c : jS} {P M : Nat} : lo 256 (bt c P M) := by
  intro b hb
  unfold bt at hb
  by_cases h : P < M
  · rw [if_pos h] at hb
    obtain ⟨j, hj, e⟩ := pk_andE (c 29 P) (m := 255) 8 rfl
    rw [e, nI_clamp (by omega)] at hb
    cases hb
    exact hj
  · rw [if_neg h] at hb
    cases hb
theorem bt_s {c : jS} {P M b : Nat} (h : bt c P M = some b) : P < M := by
  unfold bt at h
  by_cases g : P < M
  · exact g
  · rw [if_neg g] at h; cases h
theorem bt_v {c : jS} {P M : Nat} (h : P < M) : ∃ b, b < 256 ∧ bt c P M = some b ∧ (c 29 P &&& 255) = nI b := by
  obtain ⟨j, hj, e⟩ := pk_andE (c 29 P) (m := 255) 8 rfl
  refine ⟨j, hj, ?_, e⟩
  unfold bt
  rw [if_pos h, e, nI_clamp (by omega)]
theorem bx_eq {B : Option Nat} {k : Nat} (hB : lo 256 B) (hk : k < 256) : bx B = nI k ↔ B = some k := by
  cases B with
  | none => exact ⟨fun h => absurd h (ne_nI (by omega) (by decide)), fun h => by cases h⟩
  | some b =>
    have hb := hB b rfl
    refine ⟨fun h => ?_, fun h => by cases h; rfl⟩
    rw [(nI_eq (a := b) (b := k) (by omega) (by omega)).mp h]
theorem bm_eq {B : Option Nat} {k : Nat} (hB : lo 256 B) (hk : k < 256) : bm B = nI k ↔ B = some k := by
  cases B with
  | none => exact ⟨fun h => absurd h (ne_nI (by omega) (by decide)), fun h => by cases h⟩
  | some b =>
    have hb := hB b rfl
    refine ⟨fun h => ?_, fun h => by cases h; rfl⟩
    rw [(nI_eq (a := b) (b := k) (by omega) (by omega)).mp h]
/-- the tape under both readers -/
def Tk (M : Nat) (c r : jS) (P : Nat) : Prop := Tp c r M ∧ M ≤ 600 ∧ c 28 4 = nI P ∧ r 30 41 = nI P ∧ P ≤ M ∧ r 30 42 = 0
theorem x_byte {M P : Nat} {c r : jS} (h : Tk M c r P) : xReader_byteHere c = some (bx (bt c P M)) := by
  obtain ⟨⟨h1, -, -⟩, h2, h3, -, h4, -⟩ := h
  unfold xReader_byteHere
  rw [h3, h1, if_neg (nI_pos (by omega))]
  by_cases hP : P < M
  · obtain ⟨b, hb, e1, e2⟩ := bt_v (c := c) hP
    rw [if_neg (nI_ge hP (by omega)), if_neg (show ¬ (600 : Int32) ≤ nI P from nI_ge (b := 600) (by omega) (by decide)), gd_t (ix_nI (by omega) (by decide)), nI_clamp (by omega), e2, e1]
    rfl
  · rw [if_pos (nI_le (by omega) (by omega))]
    unfold bt
    rw [if_neg hP]
    rfl
theorem m_byte {M P : Nat} {c r : jS} (h : Tk M c r P) : m_byteHere r = some (bm (bt c P M)) := by
  obtain ⟨⟨-, h1, h5⟩, h2, -, h3, h4, -⟩ := h
  unfold m_byteHere
  rw [h3, h1]
  by_cases hP : P < M
  · obtain ⟨b, hb, e1, e2⟩ := bt_v (c := c) hP
    rw [if_neg (nI_ge hP (by omega)), gd_t (ix_nI (by omega) (by decide)), nI_clamp (by omega), h5 P hP, e2, e1]
    rfl
  · rw [if_pos (nI_le (by omega) (by omega))]
    unfold bt
    rw [if_neg hP]
    rfl
theorem Tk_f {M P : Nat} {c c' r r' : jS} (h : Tk M c r P) (h1 : c' 28 = c 28) (h2 : c' 29 = c 29) (h3 : r' 59 = r 59) (h4 : r' 30 40 = r 30 40) (h5 : r' 30 41 = r 30 41) (h6 : r' 30 42 = r 30 42) : Tk M c' r' P := by
  unfold Tk Tp at *
  rw [h1, h2, h3, h4, h5, h6]
  exact h
theorem Tk_next {M P : Nat} {c r : jS} (h : Tk M c r P) (hP : P < M) : Tk M (su c 28 4 (nI (P + 1))) (su r 30 41 (nI (P + 1))) (P + 1) := by
  obtain ⟨⟨a1, a2, a3⟩, h2, h3, h4, h5, h6⟩ := h
  refine ⟨⟨?_, ?_, ?_⟩, h2, ?_, ?_, by omega, ?_⟩
  · rw [su_row, upd_n (by omega)]; exact a1
  · rw [su_row, upd_n (by omega)]; exact a2
  · intro i hi; rw [su_ne (by omega), su_ne (by omega)]; exact a3 i hi
  · rw [su_row, upd_s]
  · rw [su_row, upd_s]
  · rw [su_row, upd_n (by omega)]; exact h6
theorem pass_t {M P k : Nat} {c r : jS} (h : Tk M c r P) (hk : k < 256) (hb : bt c P M = some k) : xReader_pass c (nI k) = some (0, su c 28 4 (nI (P + 1))) := by
  unfold xReader_pass
  rw [x_byte h, ob_s, hb, if_pos (show bx (some k) = nI k from rfl), h.2.2.1, ltS, nI_1]
theorem pass_f {M P k : Nat} {c r : jS} (h : Tk M c r P) (hk : k < 256) (hb : ¬ bt c P M = some k) : xReader_pass c (nI k) = some (-10 - nI P, c) := by
  unfold xReader_pass xReader_wrongHere
  rw [x_byte h, ob_s, if_neg (fun e => hb ((bx_eq bt_lo hk).mp e)), h.2.2.1, ob_s]
theorem must_t {M P k : Nat} {c r : jS} (h : Tk M c r P) (hk : k < 256) (hb : bt c P M = some k) : m_must r (nI k) = some ((), su r 30 41 (nI (P + 1))) := by
  unfold m_must
  rw [if_pos h.2.2.2.2.2, m_byte h, ob_s, hb, if_pos (show bm (some k) = nI k from rfl), h.2.2.2.1, ltS, nI_1]
theorem must_f {M P k : Nat} {c r : jS} (h : Tk M c r P) (hk : k < 256) (hb : ¬ bt c P M = some k) : m_must r (nI k) = some ((), su r 30 42 1) := by
  unfold m_must m_must_P28
  rw [if_pos h.2.2.2.2.2, m_byte h, ob_s, if_neg (fun e => hb ((bm_eq bt_lo hk).mp e)), if_pos h.2.2.2.2.2, ltS]
theorem must_n {r : jS} {k : Int32} (h : ¬ r 30 42 = 0) : m_must r k = some ((), r) := by
  unfold m_must m_must_P28
  rw [if_neg h, if_neg h]
theorem l_lo : ∀ b, b < 97 → nI b - 97 < 0 := by decide +kernel
theorem l_hi {b : Nat} (h : 123 ≤ b) (hb : b < 256) : ¬ nI b - 97 < 0 ∧ (26 : Int32) ≤ nI b - 97 := by
  have e : nI b - 97 = nI (b - 97) := nI_subI (b := 97) (by omega)
  rw [e]
  exact ⟨nI_pos (by omega), nI_le (a := 26) (by omega) (by omega)⟩
/-- a letter, or none -/
theorem let_cases {B : Option Nat} (hB : lo 256 B) (c r : jS) : (∃ x, x < 26 ∧ B = some (97 + x) ∧ xc_isLetter c (bx B - 97) = some 1 ∧ bx B - 97 = nI x ∧ m_in r (bm B) 97 122 = some 1 ∧ bm B - 97 = nI x) ∨ ((∀ x, x < 26 → B ≠ some (97 + x)) ∧ xc_isLetter c (bx B - 97) = some 0 ∧ m_in r (bm B) 97 122 = some 0) := by
  cases B with
  | none =>
    refine Or.inr ⟨fun x _ h => (by cases h), ?_, ?_⟩
    · unfold xc_isLetter; rw [if_pos (show bx none - 97 < 0 by decide)]
    · exact m_in_lo (show bm none < 97 by decide)
  | some b =>
    have hb := hB b rfl
    by_cases h1 : b < 97
    · refine Or.inr ⟨fun x _ h => (by cases h; omega), ?_, ?_⟩
      · unfold xc_isLetter; rw [if_pos (show bx (some b) - 97 < 0 from l_lo b h1)]
      · exact m_in_lo (show nI b < nI 97 from nI_lt h1 (by decide))
    · by_cases h2 : 123 ≤ b
      · refine Or.inr ⟨fun x _ h => (by cases h; omega), ?_, ?_⟩
        · unfold xc_isLetter; rw [if_neg (show ¬ bx (some b) - 97 < 0 from (l_hi h2 hb).1), if_pos (show (26 : Int32) ≤ bx (some b) - 97 from (l_hi h2 hb).2)]
        · exact m_in_hi (show ¬ nI b < nI 97 from nI_nlt (by omega) (by omega)) (show nI 122 < nI b from nI_lt (by omega) (by omega))
      · have e : nI b - 97 = nI (b - 97) := nI_subI (b := 97) (by omega)
        refine Or.inl ⟨b - 97, by omega, by rw [show 97 + (b - 97) = b by omega], ?_, e, ?_, e⟩
        · show xc_isLetter c (nI b - 97) = _
          rw [e]; exact x_isL_t (by omega)
        · exact m_in_t (a := 97) (b := 122) (by omega) (by omega) (by decide)
/-- a digit, or none -/
theorem dig_cases {B : Option Nat} (hB : lo 256 B) (c r : jS) : (∃ d, d ≤ 9 ∧ B = some (48 + d) ∧ xReader_isDigit c (bx B) = some 1 ∧ m_in r (bm B) 48 57 = some 1) ∨ ((∀ d, d ≤ 9 → B ≠ some (48 + d)) ∧ xReader_isDigit c (bx B) = some 0 ∧ m_in r (bm B) 48 57 = some 0) := by
  unfold xReader_isDigit
  cases B with
  | none =>
    refine Or.inr ⟨fun x _ h => (by cases h), ?_, ?_⟩
    · rw [if_pos (show bx none < 48 by decide)]
    · exact m_in_lo (show bm none < 48 by decide)
  | some b =>
    have hb := hB b rfl
    by_cases h1 : b < 48
    · refine Or.inr ⟨fun x _ h => (by cases h; omega), ?_, ?_⟩
      · rw [if_pos (show bx (some b) < 48 from nI_lt (a := b) (b := 48) h1 (by decide))]
      · exact m_in_lo (show nI b < nI 48 from nI_lt h1 (by decide))
    · have n1 : ¬ nI b < nI 48 := nI_nlt (by omega) (by omega)
      by_cases h2 : 58 ≤ b
      · refine Or.inr ⟨fun x _ h => (by cases h; omega), ?_, ?_⟩
        · rw [if_neg (show ¬ bx (some b) < 48 from n1), if_pos (show (57 : Int32) < bx (some b) from nI_lt (a := 57) (b := b) (by omega) (by omega))]
        · exact m_in_hi (show ¬ nI b < nI 48 from n1) (show nI 57 < nI b from nI_lt (by omega) (by omega))
      · refine Or.inl ⟨b - 48, by omega, by rw [show 48 + (b - 48) = b by omega], ?_, ?_⟩
        · rw [if_neg (show ¬ bx (some b) < 48 from n1), if_neg (show ¬ (57 : Int32) < bx (some b) from nI_nlt (a := 57) (b := b) (by omega) (by omega))]
        · exact m_in_t (a := 48) (b := 57) (by omega) (by omega) (by decide)
