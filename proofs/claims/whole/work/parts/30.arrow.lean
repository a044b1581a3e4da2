def fXT (T : Nat) (c c' : jS) : Prop := (∀ p, p = 0 ∨ 4 < p → c' p = c p) ∧ ∀ i, i < T → c' 2 i = c 2 i ∧ c' 3 i = c 3 i ∧ c' 4 i = c 4 i
def fMT (T : Nat) (r r' : jS) : Prop := (∀ p, p < 30 ∨ 33 < p → r' p = r p) ∧ (∀ k, k ≠ 0 → r' 30 k = r 30 k) ∧ ∀ i, i < T → r' 31 i = r 31 i ∧ r' 32 i = r 32 i ∧ r' 33 i = r 33 i
theorem fXT.rf {T : Nat} {c : jS} : fXT T c c := ⟨fun _ _ => rfl, fun _ _ => ⟨rfl, rfl, rfl⟩⟩
theorem fMT.rf {T : Nat} {c : jS} : fMT T c c := ⟨fun _ _ => rfl, fun _ _ => rfl, fun _ _ => ⟨rfl, rfl, rfl⟩⟩
theorem fXT.tr {T T' : Nat} {a b c : jS} (hT : T ≤ T') (h : fXT T a b) (h' : fXT T' b c) : fXT T a c :=
  ⟨fun p hp => (h'.1 p hp).trans (h.1 p hp), fun i hi => ⟨(h'.2 i (by omega)).1.trans (h.2 i hi).1, (h'.2 i (by omega)).2.1.trans (h.2 i hi).2.1, (h'.2 i (by omega)).2.2.trans (h.2 i hi).2.2⟩⟩
theorem fMT.tr {T T' : Nat} {a b c : jS} (hT : T ≤ T') (h : fMT T a b) (h' : fMT T' b c) : fMT T a c :=
  ⟨fun p hp => (h'.1 p hp).trans (h.1 p hp), fun k hk => (h'.2.1 k hk).trans (h.2.1 k hk), fun i hi => ⟨(h'.2.2 i (by omega)).1.trans (h.2.2 i hi).1, (h'.2.2 i (by omega)).2.1.trans (h.2.2 i hi).2.1, (h'.2.2 i (by omega)).2.2.trans (h.2.2 i hi).2.2⟩⟩
/-- what an arrow comes to -/
def ArR (c r : jS) (T : Nat) (v : Int32) (c' r' : jS) : Prop := ∃ T', T ≤ T' ∧ Ty c' r' T' ∧ fXT T c c' ∧ fMT T r r' ∧ ((v = -3 ∧ T' = T) ∨ ∃ y, 1 ≤ y ∧ y < T' ∧ v = nI y)
theorem Ty_new {c r : jS} {T a b : Nat} (hT : Ty c r T) (ha : a < T) (hb : b < T) (h4 : T < 40) (hl : lnN c a + lnN c b + 3 ≤ 40) :
    Ty (su (su (su (su c 2 T (nI a)) 3 T (nI b)) 4 T (nI (lnN c a + lnN c b + 3))) 1 3 (nI (T + 1))) (su (su (su (su r 31 T (nI a)) 32 T (nI b)) 33 T (nI (lnN c a + lnN c b + 3))) 30 0 (nI (T + 1))) (T + 1) := by
  obtain ⟨h1, h2, h3, -, h5, h6, h7⟩ := hT
  have eln : ∀ i, i < T → lnN (su (su (su (su c 2 T (nI a)) 3 T (nI b)) 4 T (nI (lnN c a + lnN c b + 3))) 1 3 (nI (T + 1))) i = lnN c i := by
    intro i hi
    unfold lnN
    show (upd (c 4) T _ i).toNatClampNeg = _
    rw [upd_n (by omega)]
  have elT : lnN (su (su (su (su c 2 T (nI a)) 3 T (nI b)) 4 T (nI (lnN c a + lnN c b + 3))) 1 3 (nI (T + 1))) T = lnN c a + lnN c b + 3 := by
    show (upd (c 4) T (nI (lnN c a + lnN c b + 3)) T).toNatClampNeg = _
    rw [upd_s]
    exact nI_clamp (by omega)
  refine ⟨by rw [su_row, upd_s], by rw [su_row, upd_s], by omega, by omega, ?_, ?_, ?_⟩
  · intro i hi
    show upd (r 31) T _ i = upd (c 2) T _ i ∧ upd (r 32) T _ i = upd (c 3) T _ i ∧ upd (r 33) T _ i = upd (c 4) T _ i ∧ upd (c 4) T _ i = _ ∧ _
    by_cases hiT : i = T
    · subst hiT
      rw [upd_s, upd_s, upd_s, upd_s, upd_s, upd_s, elT]
      exact ⟨rfl, rfl, rfl, rfl, hl⟩
    · rw [upd_n hiT, upd_n hiT, upd_n hiT, upd_n hiT, upd_n hiT, upd_n hiT, eln i (by omega)]
      exact h5 i (by omega)
  · show upd (c 2) T _ 0 = _ ∧ upd (c 3) T _ 0 = _ ∧ upd (c 4) T _ 0 = _
    rw [upd_n (by omega), upd_n (by omega), upd_n (by omega)]
    exact h6
  · intro i hi1 hi
    show ∃ a' b', a' < i ∧ b' < i ∧ upd (c 2) T _ i = _ ∧ upd (c 3) T _ i = _ ∧ _
    by_cases hiT : i = T
    · subst hiT
      refine ⟨a, b, ha, hb, upd_s, upd_s, ?_⟩
      rw [elT, eln a ha, eln b hb]
    · obtain ⟨a', b', q1, q2, q3, q4, q5⟩ := h7 i hi1 (by omega)
      refine ⟨a', b', q1, q2, by rw [upd_n hiT]; exact q3, by rw [upd_n hiT]; exact q4, ?_⟩
      rw [eln i (by omega), eln a' (by omega), eln b' (by omega)]
      exact q5
theorem arw_L {c r : jS} {T a b : Nat} (hT : Ty c r T) (ha : a < T) (hb : b < T) : ∀ (k i : Nat), i + k = T → 1 ≤ i → ∃ v c' r', xTypes_arrowOf_L2 (nI a) (nI b) (nI i) c = some (v, c') ∧ m_arrowOf_L2 (nI a) (nI b) (nI i) r = some (v, r') ∧ ArR c r T v c' r'
  | 0, i, h, hi => by
    have hiT : i = T := by omega
    subst hiT
    obtain ⟨h1, h2, h3, h4, h5, h6, h7⟩ := id hT
    have la := h5 a ha
    have lb := h5 b hb
    have ex : xTypes_arrowOf_L2 (nI a) (nI b) (nI i) c = some (if i = 40 then (-3, c) else if lnN c a + lnN c b + 3 ≤ 40 then (nI i, su (su (su (su c 2 i (nI a)) 3 i (nI b)) 4 i (nI (lnN c a + lnN c b + 3))) 1 3 (nI (i + 1))) else (-3, c)) := by
      unfold xTypes_arrowOf_L2
      refine lp_inr ?_
      show xTypes_arrowOf_S2 (nI a) (nI b) (nI i) c = _
      unfold xTypes_arrowOf_S2 xTypes_arrowOf_P44_2
      rw [h1, if_pos (nI_le (Nat.le_refl _) (by omega)), xt_lengthOf_t h1 h4 ha, ob_s, xt_lengthOf_t h1 h4 hb, ob_s, la.2.2.2.1, lb.2.2.2.1, nI_add, show (3 : Int32) = nI 3 from rfl, nI_add]
      by_cases h40 : i = 40
      · rw [if_pos h40, if_pos (show (40 : Int32) ≤ nI i from nI_le (a := 40) (by omega) (by omega))]
      · rw [if_neg h40, if_neg (show ¬ (40 : Int32) ≤ nI i from nI_ge (b := 40) (by omega) (by decide))]
        by_cases hl : lnN c a + lnN c b + 3 ≤ 40
        · rw [if_pos hl, if_pos (show nI (lnN c a + lnN c b + 3) ≤ (40 : Int32) from nI_le (b := 40) hl (by decide)), gd_t (ix_nI (by omega) (by decide)), ltS]
          have g : ∀ (c' : jS) {α : Type} {x : Option α}, c' 1 3 = nI i → gd (ix (c' 1 3) 40) x = x := fun c' α x h => by rw [h]; exact gd_t (ix_nI (by omega) (by decide))
          rw [g _ (show (su c 2 (nI i).toNatClampNeg (nI a)) 1 3 = nI i from h1), ltS, g _ (show (su (su c 2 (nI i).toNatClampNeg (nI a)) 3 ((su c 2 (nI i).toNatClampNeg (nI a)) 1 3).toNatClampNeg (nI b)) 1 3 = nI i from h1), ltS, ltS]
          have e1 : (su c 2 (nI i).toNatClampNeg (nI a)) 1 3 = nI i := h1
          rw [e1]
          have e2 : (su (su c 2 (nI i).toNatClampNeg (nI a)) 3 (nI i).toNatClampNeg (nI b)) 1 3 = nI i := h1
          rw [e2]
          have e3 : (su (su (su c 2 (nI i).toNatClampNeg (nI a)) 3 (nI i).toNatClampNeg (nI b)) 4 (nI i).toNatClampNeg (nI (lnN c a + lnN c b + 3))) 1 3 = nI i := h1
          rw [e3, nI_1, nI_clamp (by omega), su_row, upd_s, nI_pred]
        · rw [if_neg hl, if_neg (show ¬ nI (lnN c a + lnN c b + 3) ≤ (40 : Int32) from nI_ge (a := 40) (by omega) (by omega))]
    have em : m_arrowOf_L2 (nI a) (nI b) (nI i) r = some (if i = 40 then (-3, r) else if lnN c a + lnN c b + 3 ≤ 40 then (nI i, su (su (su (su r 31 i (nI a)) 32 i (nI b)) 33 i (nI (lnN c a + lnN c b + 3))) 30 0 (nI (i + 1))) else (-3, r)) := by
      unfold m_arrowOf_L2
      refine lp_inr ?_
      show m_arrowOf_S2 (nI a) (nI b) (nI i) r = _
      unfold m_arrowOf_S2
      have gA : ∀ {α : Type} {x : Option α}, gd (ix (nI a) 40) x = x := fun {α x} => gd_t (ix_nI (by omega) (by decide))
      have gB : ∀ {α : Type} {x : Option α}, gd (ix (nI b) 40) x = x := fun {α x} => gd_t (ix_nI (by omega) (by decide))
      rw [h2, if_pos (nI_le (Nat.le_refl _) (by omega))]
      simp only [gA, gB]
      rw [nI_clamp (show a < 2 ^ 31 by omega), nI_clamp (show b < 2 ^ 31 by omega), la.2.2.1, lb.2.2.1, la.2.2.2.1, lb.2.2.2.1, nI_add, show (3 : Int32) = nI 3 from rfl, nI_add]
      by_cases h40 : i = 40
      · rw [if_pos h40, if_pos (show nI i = (40 : Int32) from by rw [h40]; rfl)]
      · rw [if_neg h40, if_neg (show ¬ nI i = (40 : Int32) from fun e => h40 ((nI_eq (b := 40) (by omega) (by decide)).mp e))]
        by_cases hl : lnN c a + lnN c b + 3 ≤ 40
        · rw [if_pos hl, if_pos (show nI (lnN c a + lnN c b + 3) ≤ (40 : Int32) from nI_le (b := 40) hl (by decide)), gd_t (ix_nI (by omega) (by decide)), ltS]
          have g : ∀ (c' : jS) {α : Type} {x : Option α}, c' 30 0 = nI i → gd (ix (c' 30 0) 40) x = x := fun c' α x h => by rw [h]; exact gd_t (ix_nI (by omega) (by decide))
          have e1 : (su r 31 (nI i).toNatClampNeg (nI a)) 30 0 = nI i := h2
          rw [g _ e1, ltS, e1]
          have e2 : (su (su r 31 (nI i).toNatClampNeg (nI a)) 32 (nI i).toNatClampNeg (nI b)) 30 0 = nI i := h2
          rw [g _ e2, ltS, ltS, e2]
          have e3 : (su (su (su r 31 (nI i).toNatClampNeg (nI a)) 32 (nI i).toNatClampNeg (nI b)) 33 (nI i).toNatClampNeg ((su (su r 31 (nI i).toNatClampNeg (nI a)) 32 (nI i).toNatClampNeg (nI b)) 33 a + (su (su r 31 (nI i).toNatClampNeg (nI a)) 32 (nI i).toNatClampNeg (nI b)) 33 b + nI 3)) 30 0 = nI i := h2
          rw [e3, nI_1, nI_clamp (show i < 2 ^ 31 by omega), su_row, upd_s, nI_pred, show (su (su r 31 i (nI a)) 32 i (nI b)) 33 = r 33 from rfl, la.2.2.1, lb.2.2.1, la.2.2.2.1, lb.2.2.2.1, nI_add, nI_add]
        · rw [if_neg hl, if_neg (show ¬ nI (lnN c a + lnN c b + 3) ≤ (40 : Int32) from nI_ge (a := 40) (by omega) (by omega))]
    rw [ex, em]
    by_cases h40 : i = 40
    · rw [if_pos h40, if_pos h40]
      exact ⟨-3, c, r, rfl, rfl, i, Nat.le_refl _, hT, fXT.rf, fMT.rf, Or.inl ⟨rfl, rfl⟩⟩
    · rw [if_neg h40, if_neg h40]
      by_cases hl : lnN c a + lnN c b + 3 ≤ 40
      · rw [if_pos hl, if_pos hl]
        refine ⟨_, _, _, rfl, rfl, i + 1, by omega, Ty_new hT ha hb (by omega) hl, ⟨fun p hp => ?_, fun j hj => ?_⟩, ⟨fun p hp => ?_, fun k hk => ?_, fun j hj => ?_⟩, Or.inr ⟨i, hi, by omega, rfl⟩⟩
        · rw [su_ne (by omega), su_ne (by omega), su_ne (by omega), su_ne (by omega)]
        · show upd (c 2) i _ j = _ ∧ upd (c 3) i _ j = _ ∧ upd (c 4) i _ j = _
          rw [upd_n (by omega), upd_n (by omega), upd_n (by omega)]
          exact ⟨rfl, rfl, rfl⟩
        · rw [su_ne (by omega), su_ne (by omega), su_ne (by omega), su_ne (by omega)]
        · rw [su_row, upd_n hk]
          rfl
        · show upd (r 31) i _ j = _ ∧ upd (r 32) i _ j = _ ∧ upd (r 33) i _ j = _
          rw [upd_n (by omega), upd_n (by omega), upd_n (by omega)]
          exact ⟨rfl, rfl, rfl⟩
      · rw [if_neg hl, if_neg hl]
        exact ⟨-3, c, r, rfl, rfl, i, Nat.le_refl _, hT, fXT.rf, fMT.rf, Or.inl ⟨rfl, rfl⟩⟩
  | k + 1, i, h, hi => by
    obtain ⟨h1, h2, h3, h4, h5, h6, h7⟩ := id hT
    have row := h5 i (by omega)
    have nx : ¬ nI T ≤ nI i := nI_ge (by omega) (by omega)
    have n4 : ¬ (40 : Int32) ≤ nI i := nI_ge (b := 40) (by omega) (by decide)
    obtain ⟨v, c', r', q1, q2, q3⟩ := arw_L hT ha hb k (i + 1) (by omega) (by omega)
    have stepX : ∀ {α : Type} {x : Option α}, gd (ix (nI i) 40) x = x := fun {α x} => gd_t (ix_nI (by omega) (by decide))
    by_cases e1 : c 2 i = nI a
    · by_cases e2 : c 3 i = nI b
      · refine ⟨nI i, c, r, ?_, ?_, T, Nat.le_refl _, hT, fXT.rf, fMT.rf, Or.inr ⟨i, hi, by omega, rfl⟩⟩
        · unfold xTypes_arrowOf_L2
          refine lp_inr ?_
          show xTypes_arrowOf_S2 (nI a) (nI b) (nI i) c = _
          unfold xTypes_arrowOf_S2
          rw [h1, if_neg nx, if_neg n4, stepX, nI_clamp (by omega), if_pos e1, stepX, if_pos e2]
        · unfold m_arrowOf_L2
          refine lp_inr ?_
          show m_arrowOf_S2 (nI a) (nI b) (nI i) r = _
          unfold m_arrowOf_S2
          rw [h2, if_neg nx, stepX, nI_clamp (show i < 2 ^ 31 by omega), row.1, row.2.1, if_pos e1, stepX, if_pos e2]
      · refine ⟨v, c', r', ?_, ?_, q3⟩
        · rw [← q1]
          unfold xTypes_arrowOf_L2
          refine lp_inl ?_
          show xTypes_arrowOf_S2 (nI a) (nI b) (nI i) c = _
          unfold xTypes_arrowOf_S2
          rw [h1, if_neg nx, if_neg n4, stepX, nI_clamp (by omega), if_pos e1, stepX, if_neg e2, nI_1]
        · rw [← q2]
          unfold m_arrowOf_L2
          refine lp_inl ?_
          show m_arrowOf_S2 (nI a) (nI b) (nI i) r = _
          unfold m_arrowOf_S2
          rw [h2, if_neg nx, stepX, nI_clamp (show i < 2 ^ 31 by omega), row.1, row.2.1, if_pos e1, stepX, if_neg e2, nI_1]
    · refine ⟨v, c', r', ?_, ?_, q3⟩
      · rw [← q1]
        unfold xTypes_arrowOf_L2
        refine lp_inl ?_
        show xTypes_arrowOf_S2 (nI a) (nI b) (nI i) c = _
        unfold xTypes_arrowOf_S2
        rw [h1, if_neg nx, if_neg n4, stepX, nI_clamp (by omega), if_neg e1, nI_1]
      · rw [← q2]
        unfold m_arrowOf_L2
        refine lp_inl ?_
        show m_arrowOf_S2 (nI a) (nI b) (nI i) r = _
        unfold m_arrowOf_S2
        rw [h2, if_neg nx, stepX, nI_clamp (show i < 2 ^ 31 by omega), row.1, if_neg e1, nI_1]
theorem ARW {c r : jS} {T a b : Nat} (hT : Ty c r T) (ha : a < T) (hb : b < T) : ∃ v c' r', xTypes_arrowOf c (nI a) (nI b) = some (v, c') ∧ m_arrowOf r (nI a) (nI b) = some (v, r') ∧ ArR c r T v c' r' := by
  obtain ⟨h1, h2, h3, h4, h5, h6, h7⟩ := id hT
  obtain ⟨v, c', r', q1, q2, q3⟩ := arw_L hT ha hb (T - 1) 1 (by omega) (Nat.le_refl _)
  refine ⟨v, c', r', ?_, q2, q3⟩
  rw [← q1]
  unfold xTypes_arrowOf xTypes_arrowOf_L2
  refine lp_inl ?_
  show xTypes_arrowOf_S2 (nI a) (nI b) (nI 0) c = _
  unfold xTypes_arrowOf_S2
  rw [h1, if_neg (nI_ge (by omega) (by omega)), if_neg (by decide), gd_t (ix_nI (by omega) (by decide)), nI_clamp (by omega), h6.1, if_neg (ne_nI (by omega) (by decide)), nI_1]
