theorem nd0_le : ∀ (f m : Nat), nd0 f m ≤ f
  | 0, _ => Nat.le_refl 0
  | f + 1, m => by
    unfold nd0
    by_cases h : m = 0
    · rw [if_pos h]; omega
    · rw [if_neg h]; have := nd0_le f (m / 10); omega
theorem dgN_le (v : Int32) : dgN v ≤ 12 := by
  unfold dgN
  have := nd0_le 10 (v.toInt.natAbs / 10)
  by_cases h : v < 0
  · rw [if_pos h]; omega
  · rw [if_neg h]; omega
theorem div10_abs (v : Int32) : (v / 10).toInt.natAbs = v.toInt.natAbs / 10 := by
  rw [Int32.toInt_div_of_ne_right _ _ (by decide), show (10 : Int32).toInt = 10 by decide, Int.natAbs_tdiv]
  rfl
theorem nz32_10 : nz32 (10 : Int32) = true := by decide
theorem abs0 {v : Int32} : v = 0 ↔ v.toInt.natAbs = 0 := by
  rw [← Int32.toInt_inj, show (0 : Int32).toInt = 0 by decide]
  omega
theorem dig_L {c : jS} : ∀ (f i a : Nat) (v : Int32), i + f = 10 → xTerms_digitsOf_L17 (nI a) v (nI i) c = some (nI (a + nd0 f v.toInt.natAbs))
  | 0, i, a, v, h => by
    have hi : i = 10 := by omega
    subst hi
    unfold xTerms_digitsOf_L17
    refine lp_inr ?_
    show xTerms_digitsOf_S17 (nI a) v (nI 10) c = _
    unfold xTerms_digitsOf_S17
    rw [if_pos (show (10 : Int32) ≤ nI 10 from nI_le (Nat.le_refl _) (by decide))]
    rfl
  | f + 1, i, a, v, h => by
    have hn : ¬ (10 : Int32) ≤ nI i := nI_ge (b := 10) (by omega) (by decide)
    by_cases hv : v = 0
    · unfold xTerms_digitsOf_L17
      refine lp_inr ?_
      show xTerms_digitsOf_S17 (nI a) v (nI i) c = _
      unfold xTerms_digitsOf_S17 nd0
      rw [if_neg hn, if_pos hv, if_pos (abs0.mp hv)]
      rfl
    · have ih := dig_L (c := c) f (i + 1) (a + 1) (v / 10) (by omega)
      rw [div10_abs] at ih
      have e : nd0 (f + 1) v.toInt.natAbs = nd0 f (v.toInt.natAbs / 10) + 1 := by
        show (if v.toInt.natAbs = 0 then 0 else nd0 f (v.toInt.natAbs / 10) + 1) = _
        rw [if_neg (fun q => hv (abs0.mpr q))]
      rw [e, show a + (nd0 f (v.toInt.natAbs / 10) + 1) = a + 1 + nd0 f (v.toInt.natAbs / 10) by omega, ← ih]
      unfold xTerms_digitsOf_L17
      refine lp_inl ?_
      show xTerms_digitsOf_S17 (nI a) v (nI i) c = _
      unfold xTerms_digitsOf_S17
      rw [if_neg hn, if_neg hv, gd_t nz32_10, nI_1, nI_1]
theorem x_digits {c : jS} (v : Int32) : xTerms_digitsOf c v = some (nI (dgN v)) := by
  unfold xTerms_digitsOf dgN
  rw [gd_t nz32_10, gd_t nz32_10]
  by_cases h : 0 ≤ v
  · have h' : ¬ v < 0 := by rw [Int32.lt_iff_toInt_lt]; rw [Int32.le_iff_toInt_le] at h; omega
    rw [if_pos h, if_neg h', show (1 : Int32) = nI 1 from rfl, show (0 : Int32) = nI 0 from rfl, dig_L 10 0 1 _ (by omega), div10_abs]
    rfl
  · have h' : v < 0 := by rw [Int32.lt_iff_toInt_lt]; rw [Int32.le_iff_toInt_le] at h; omega
    rw [if_neg h, if_pos h', show (2 : Int32) = nI 2 from rfl, show (0 : Int32) = nI 0 from rfl, dig_L 10 0 2 _ (by omega), div10_abs, show 2 + nd0 10 (v.toInt.natAbs / 10) = 1 + nd0 10 (v.toInt.natAbs / 10) + 1 by omega]
theorem AgX_su {n q : Nat} {c c' : jS} {v : Int32} (h : AgX n c c') : AgX n c (su c' q n v) := by
  intro p h1 h2 t ht
  by_cases hpq : p = q
  · subst hpq; rw [su_row, upd_n (by omega)]; exact h p h1 h2 t ht
  · rw [su_ne hpq]; exact h p h1 h2 t ht
theorem fX_su {n q : Nat} {c c' : jS} {v : Int32} (h : fX c c') (h1 : 5 ≤ q) (h2 : q ≤ 16) : fX c (su c' q n v) := by
  intro p hp
  rw [su_ne (by omega)]
  exact h p hp
theorem lo_n {n : Nat} : lo n none := fun _ h => by cases h
theorem lo_s {n p : Nat} (h : p < n) : lo n (some p) := fun q hq => by cases hq; exact h
theorem MK0 {c r : jS} {T n : Nat} (hT : Ty c r T) (hM : Tm c r T n) (v2 : Int32) :
    ∃ (v : Int32) (c' r' : jS), xTerms_newNumber c v2 = some (v, c') ∧ m_make r 0 v2 (-2) (-2) (-2) (-2) (-2) = some (v, r') ∧ fX c c' ∧ fM r r' ∧ AgX n c c' ∧ AgM n r r' ∧
      ((v = -3 ∧ c' = c ∧ Tm c' r' T n) ∨ (v = nI n ∧ n < 400 ∧ Tm c' r' T (n + 1) ∧ Nod c' r' T n 0 none none none none none ∧ c' 7 n = v2)) := by
  have hs : shp T n 0 none none none none none := ⟨by decide, rfl, lo_n, lo_n, lo_n, lo_n, lo_n⟩
  have e1 : xTerms_made c 0 (-2) (-2) (-2) (-2) (-2) = _ := x_made hM.1 hM.2.2.1 hT.1 hT.2.2.2.1 (nI 0) (lx := none) (ty := none) (oa := none) (ob := none) (od := none) lo_n lo_n lo_n lo_n lo_n
  unfold xTerms_newNumber
  by_cases h400 : n = 400
  · subst h400
    refine ⟨-3, c, r, ?_, ?_, fX.rf, fM.rf, AgX.rf, AgM.rf, Or.inl ⟨rfl, rfl, hM⟩⟩
    · rw [e1, if_pos rfl, bd_s]
      rfl
    · unfold m_make
      rw [hM.2.1, if_pos (show nI 400 = (400 : Int32) from rfl)]
  · have hn : n < 400 := by have := hM.2.2.1; omega
    obtain ⟨g, g1, g2, e2⟩ := m_mk v2 hM hs hn
    rw [if_neg h400, if_neg (show ¬ (1000 : Int32) < xmS c none none none from (by decide : ¬ (1000 : Int32) < 1 + 0 + 0 + 0)), if_pos (show xmD c none none none ≤ 40 from (by decide : (1 : Int32) + xmx 0 (xmx 0 0) ≤ 40))] at e1
    rw [if_neg (by simp [oz]), if_pos (by simp [oz])] at e2
    have hx : AgX n c (su (su (xmE c n (nI 0) none none none none none) 7 n v2) 16 n (nI (dgN v2))) := AgX_su (AgX_su AgX_E)
    have hm : AgM n r (su (su (su (rw42 (mk0 r n (nI 0) v2 (pv none) (pv none) (pv none) (pv none) (pv none)) g) 40 n (nI (1 + oz (szN c) none + oz (szN c) none + oz (szN c) none))) 41 n (nI (1 + max (oz (dpN c) none) (max (oz (dpN c) none) (oz (dpN c) none))))) 30 5 (nI (n + 1))) := AgM_5 (AgM_E g1)
    have q39 : ∀ (f : Nat → Int32) (a b d : Int32), upd (upd (upd f (3 * n) a) (3 * n + 1) b) (3 * n + 2) d (3 * n) = a ∧ upd (upd (upd f (3 * n) a) (3 * n + 1) b) (3 * n + 2) d (3 * n + 1) = b ∧ upd (upd (upd f (3 * n) a) (3 * n + 1) b) (3 * n + 2) d (3 * n + 2) = d := by
      intro f a b d
      refine ⟨?_, ?_, upd_s⟩
      · rw [upd_n (by omega), upd_n (by omega), upd_s]
      · rw [upd_n (by omega), upd_s]
    have hd := dgN_le v2
    have hrow := row_ok (v2 := v2) (w := dgN v2) hT hM hs hx hm (by simp [oz]) (by simp [oz]) upd_s upd_s (fun h => absurd rfl h) upd_s upd_s upd_s upd_s upd_s upd_s upd_s upd_s upd_s (by simp [oz]) (by simp; omega) (fun _ _ => rfl) upd_s upd_s upd_s upd_s (q39 _ _ _ _).1 (q39 _ _ _ _).2.1 (q39 _ _ _ _).2.2 upd_s upd_s g2
    refine ⟨nI n, _, _, ?_, e2, fX_su (fX_su fX_E (by omega) (by omega)) (by omega) (by omega), fM_5 fM_E, hx, hm, Or.inr ⟨rfl, hn, Tm_push hn hx hm (fun _ _ => rfl) rfl rfl hM hrow.1 hrow.2, hrow.2, upd_s⟩⟩
    rw [e1, bd_s, x_has_t (n := n + 1) rfl (by omega) (by omega), ob_s, if_neg (by decide), gd_t (ix_nI (by omega) (by decide)), ltS, x_digits, ob_s, gd_t (ix_nI (by omega) (by decide)), ltS, nI_clamp (by omega)]
theorem Ty_f {c c' r r' : jS} {T : Nat} (hx : fX c c') (hm : fM r r') (h : Ty c r T) : Ty c' r' T := by
  unfold Ty lnN at *
  rw [hx 1 (by omega), hx 2 (by omega), hx 3 (by omega), hx 4 (by omega), hm.2 0 (by omega), hm.1 31 (by omega) (by omega), hm.1 32 (by omega) (by omega), hm.1 33 (by omega) (by omega)]
  exact h
/-- what is left of the invariant: declared types, the latest fault, the steps, THE PRINT, THE TAPE -/
def Oth (c r : jS) (T : Nat) : Prop :=
  (∀ x, x < 26 → r 34 x = c 18 x ∧ (c 18 x = -2 ∨ ∃ y, y < T ∧ c 18 x = nI y)) ∧
  (r 30 24 = c 17 4 ∧ r 30 25 = c 17 5 ∧ r 30 31 = c 0 9) ∧
  (∃ L, L ≤ 4000 ∧ c 26 3 = nI L ∧ r 30 33 = nI L ∧ ∀ i, i < L → r 55 i = (c 27 i &&& 255)) ∧
  (∃ M, M ≤ 600 ∧ c 28 3 = nI M ∧ r 30 40 = nI M ∧ ∀ i, i < M → r 59 i = (c 29 i &&& 255))
def Inv (c r : jS) : Prop := ∃ T n, Ty c r T ∧ Tm c r T n ∧ Oth c r T
theorem Oth_f {c c' r r' : jS} {T : Nat} (hx : fX c c') (hm : fM r r') (h : Oth c r T) : Oth c' r' T := by
  unfold Oth at *
  rw [hx 0 (by omega), hx 17 (by omega), hx 18 (by omega), hx 26 (by omega), hx 27 (by omega), hx 28 (by omega), hx 29 (by omega), hm.1 34 (by omega) (by omega), hm.1 55 (by omega) (by omega), hm.1 59 (by omega) (by omega), hm.2 24 (by omega), hm.2 25 (by omega), hm.2 31 (by omega), hm.2 33 (by omega), hm.2 40 (by omega)]
  exact h
/-- behind a make -/
theorem Inv_mk {c c' r r' : jS} {T n : Nat} {v : Int32} {P : Prop} (hx : fX c c') (hm : fM r r') (hT : Ty c r T) (hO : Oth c r T) (h : (v = -3 ∧ c' = c ∧ Tm c' r' T n) ∨ (v = nI n ∧ n < 400 ∧ Tm c' r' T (n + 1) ∧ P)) : Inv c' r' := by
  rcases h with ⟨-, -, h⟩ | ⟨-, -, h, -⟩
  · exact ⟨T, n, Ty_f hx hm hT, h, Oth_f hx hm hO⟩
  · exact ⟨T, n + 1, Ty_f hx hm hT, h, Oth_f hx hm hO⟩
theorem op_number : Op_number Inv := by
  intro c r a ⟨T, n, hT, hM, hO⟩
  obtain ⟨v, c', r', e1, e2, hx, hm, -, -, h⟩ := MK0 hT hM a
  refine ⟨v, c', r', ?_, ?_, Inv_mk hx hm hT hO h⟩
  · unfold xc_number; rw [e1, bd_s]
  · unfold m_number; rw [e2, bd_s]
theorem op_name : Op_name Inv := by
  intro c r a hI
  obtain ⟨T, n, hT, hM, hO⟩ := id hI
  unfold xc_name m_name
  rcases letter_cases (c := c) (r := r) a with ⟨x, hx, rfl, e1, e2⟩ | ⟨e1, e2⟩
  · obtain ⟨v, c', r', f1, f2, hx, hm, -, -, h⟩ := MK (k := 1) (lx := some x) (ty := none) (oa := none) (ob := none) (od := none) hT hM (by decide) ⟨by decide, rfl, lo_s hx, lo_n, lo_n, lo_n, lo_n⟩
    refine ⟨v, c', r', ?_, ?_, Inv_mk hx hm hT hO h⟩
    · rw [e1, ob_s, if_neg (by decide)]
      unfold xTerms_newName
      rw [show xTerms_made c 1 (nI x) (-2) (-2) (-2) (-2) = some (v, c') from f1, bd_s, bd_s]
    · rw [e2, ob_s, if_neg (by decide), show m_make r 1 0 (nI x) (-2) (-2) (-2) (-2) = some (v, r') from f2, bd_s]
  · exact ⟨-1, c, r, by rw [e1, ob_s, if_pos rfl], by rw [e2, ob_s, if_pos rfl], hI⟩
theorem op_function : Op_function Inv := by
  intro c r a1 a2 a3 hI
  obtain ⟨T, n, hT, hM, hO⟩ := id hI
  unfold xc_function m_function
  rcases letter_cases (c := c) (r := r) a1 with ⟨x, hx, rfl, e1, e2⟩ | ⟨e1, e2⟩
  · rcases type_cases hT.1 hT.2.1 hT.2.2.2.1 a2 with ⟨y, hy, rfl, e3, e4⟩ | ⟨e3, e4⟩
    · rcases term_cases hM.1 hM.2.1 hM.2.2.1 a3 with ⟨b, hb, rfl, e5, e6⟩ | ⟨e5, e6⟩
      · obtain ⟨v, c', r', f1, f2, hx, hm, -, -, h⟩ := MK (k := 2) (lx := some x) (ty := some y) (oa := some b) (ob := none) (od := none) hT hM (by decide) ⟨by decide, rfl, lo_s hx, lo_s hy, lo_s hb, lo_n, lo_n⟩
        refine ⟨v, c', r', ?_, ?_, Inv_mk hx hm hT hO h⟩
        · rw [e1, ob_s, if_neg (by decide), e3, ob_s, if_neg (by decide), e5, ob_s, if_neg (by decide)]
          unfold xTerms_newFunction
          rw [show xTerms_made c 2 (nI x) (nI y) (nI b) (-2) (-2) = some (v, c') from f1, bd_s, bd_s]
        · rw [e2, ob_s, if_neg (by decide), e4, ob_s, if_neg (by decide), e6, ob_s, if_neg (by decide), show m_make r 2 0 (nI x) (nI y) (nI b) (-2) (-2) = some (v, r') from f2, bd_s]
      · exact ⟨-1, c, r, by rw [e1, ob_s, if_neg (by decide), e3, ob_s, if_neg (by decide), e5, ob_s, if_pos rfl], by rw [e2, ob_s, if_neg (by decide), e4, ob_s, if_neg (by decide), e6, ob_s, if_pos rfl], hI⟩
    · exact ⟨-1, c, r, by rw [e1, ob_s, if_neg (by decide), e3, ob_s, if_pos rfl], by rw [e2, ob_s, if_neg (by decide), e4, ob_s, if_pos rfl], hI⟩
  · exact ⟨-1, c, r, by rw [e1, ob_s, if_pos rfl], by rw [e2, ob_s, if_pos rfl], hI⟩
theorem op_let : Op_let Inv := by
  intro c r a1 a2 a3 hI
  obtain ⟨T, n, hT, hM, hO⟩ := id hI
  unfold xc_let m_let
  rcases letter_cases (c := c) (r := r) a1 with ⟨x, hx, rfl, e1, e2⟩ | ⟨e1, e2⟩
  · rcases term_cases hM.1 hM.2.1 hM.2.2.1 a2 with ⟨y, hy, rfl, e3, e4⟩ | ⟨e3, e4⟩
    · rcases term_cases hM.1 hM.2.1 hM.2.2.1 a3 with ⟨b, hb, rfl, e5, e6⟩ | ⟨e5, e6⟩
      · obtain ⟨v, c', r', f1, f2, hx, hm, -, -, h⟩ := MK (k := 4) (lx := some x) (ty := none) (oa := some y) (ob := some b) (od := none) hT hM (by decide) ⟨by decide, rfl, lo_s hx, lo_n, lo_s hy, lo_s hb, lo_n⟩
        refine ⟨v, c', r', ?_, ?_, Inv_mk hx hm hT hO h⟩
        · rw [e1, ob_s, if_neg (by decide), e3, ob_s, if_neg (by decide), e5, ob_s, if_neg (by decide)]
          unfold xTerms_newLet
          rw [show xTerms_made c 4 (nI x) (-2) (nI y) (nI b) (-2) = some (v, c') from f1, bd_s, bd_s]
        · rw [e2, ob_s, if_neg (by decide), e4, ob_s, if_neg (by decide), e6, ob_s, if_neg (by decide), show m_make r 4 0 (nI x) (-2) (nI y) (nI b) (-2) = some (v, r') from f2, bd_s]
      · exact ⟨-1, c, r, by rw [e1, ob_s, if_neg (by decide), e3, ob_s, if_neg (by decide), e5, ob_s, if_pos rfl], by rw [e2, ob_s, if_neg (by decide), e4, ob_s, if_neg (by decide), e6, ob_s, if_pos rfl], hI⟩
    · exact ⟨-1, c, r, by rw [e1, ob_s, if_neg (by decide), e3, ob_s, if_pos rfl], by rw [e2, ob_s, if_neg (by decide), e4, ob_s, if_pos rfl], hI⟩
  · exact ⟨-1, c, r, by rw [e1, ob_s, if_pos rfl], by rw [e2, ob_s, if_pos rfl], hI⟩
