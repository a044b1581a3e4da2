def psh (r : jS) (p : Nat) (v : Int32) : jS := su (su (su (su (su (su r 43 p v) 44 p 0) 45 p (-2)) 46 p (-2)) 47 p (-2)) 30 14 (nI (p + 1))
theorem m_push_t {r : jS} {p : Nat} {v : Int32} (h : r 30 14 = nI p) (hp : p < 90) : m_push r v = some ((), psh r p v) := by
  unfold m_push
  have g : ∀ (c' : jS) {α : Type} {x : Option α}, c' 30 14 = nI p → gd (ix (c' 30 14) 90) x = x := fun c' α x h => by rw [h]; exact gd_t (ix_nI (by omega) (by decide))
  have e : ∀ (c' : jS), c' 30 14 = nI p → (c' 30 14).toNatClampNeg = p := fun c' h => by rw [h]; exact nI_clamp (by omega)
  rw [g r h, ltS, e r h]
  have h1 : (su r 43 p v) 30 14 = nI p := h
  rw [g _ h1, ltS, e _ h1]
  have h2 : (su (su r 43 p v) 44 p 0) 30 14 = nI p := h
  rw [g _ h2, ltS, e _ h2]
  have h3 : (su (su (su r 43 p v) 44 p 0) 45 p (-2)) 30 14 = nI p := h
  rw [g _ h3, ltS, e _ h3]
  have h4 : (su (su (su (su r 43 p v) 44 p 0) 45 p (-2)) 46 p (-2)) 30 14 = nI p := h
  rw [g _ h4, ltS, e _ h4, ltS]
  have h5 : (su (su (su (su (su r 43 p v) 44 p 0) 45 p (-2)) 46 p (-2)) 47 p (-2)) 30 14 = nI p := h
  rw [h5, nI_1]
  rfl
/-- the frame of a walk on the pile from its height p on -/
def fS (p : Nat) (r r' : jS) : Prop := (∀ q, q ≠ 30 → q < 35 ∨ 49 < q → r' q = r q) ∧ (∀ k, k ≠ 5 → k ≠ 14 → k ≠ 22 → r' 30 k = r 30 k) ∧ ∀ q, 43 ≤ q → q ≤ 49 → ∀ i, i < p → r' q i = r q i
theorem fS.rf {p : Nat} {r : jS} : fS p r r := ⟨fun _ _ _ => rfl, fun _ _ _ _ => rfl, fun _ _ _ _ _ => rfl⟩
theorem fS.tr {p p' : Nat} {a b c : jS} (hp : p ≤ p') (h : fS p a b) (h' : fS p' b c) : fS p a c :=
  ⟨fun q h1 h2 => (h'.1 q h1 h2).trans (h.1 q h1 h2), fun k h1 h2 h3 => (h'.2.1 k h1 h2 h3).trans (h.2.1 k h1 h2 h3), fun q h1 h2 i hi => (h'.2.2 q h1 h2 i (by omega)).trans (h.2.2 q h1 h2 i hi)⟩
theorem fS_M {p : Nat} {r r' : jS} (h : fM r r') : fS p r r' := ⟨fun q h1 h2 => h.1 q h1 (by omega), fun k h1 h2 h3 => h.2 k h1, fun q h1 h2 i hi => by rw [h.1 q (by omega) (by omega)]⟩
/-- one write on the pile at p or above, or into top, got, terms -/
theorem fS_su {p q i : Nat} {r r' : jS} {v : Int32} (h : fS p r r') (h1 : 43 ≤ q) (h2 : q ≤ 49) (hi : p ≤ i) : fS p r (su r' q i v) := by
  refine ⟨fun w g1 g2 => by rw [su_ne (by omega)]; exact h.1 w g1 g2, fun k g1 g2 g3 => ?_, fun w g1 g2 j hj => ?_⟩
  · rw [su_ne (by omega)]; exact h.2.1 k g1 g2 g3
  · by_cases hw : w = q
    · subst hw; rw [su_row, upd_n (by omega)]; exact h.2.2 w g1 g2 j hj
    · rw [su_ne hw]; exact h.2.2 w g1 g2 j hj
theorem fS_30 {p k : Nat} {r r' : jS} {v : Int32} (h : fS p r r') (hk : k = 5 ∨ k = 14 ∨ k = 22) : fS p r (su r' 30 k v) := by
  refine ⟨fun w g1 g2 => by rw [su_ne g1]; exact h.1 w g1 g2, fun j g1 g2 g3 => ?_, fun w g1 g2 j hj => ?_⟩
  · rw [su_row, upd_n (by omega)]; exact h.2.1 j g1 g2 g3
  · rw [su_ne (by omega)]; exact h.2.2 w g1 g2 j hj
theorem fS_psh {p p' : Nat} {r r' : jS} {v : Int32} (h : fS p r r') (hp : p ≤ p') : fS p r (psh r' p' v) :=
  fS_30 (fS_su (fS_su (fS_su (fS_su (fS_su h (by omega) (by omega) hp) (by omega) (by omega) hp) (by omega) (by omega) hp) (by omega) (by omega) hp) (by omega) (by omega) hp) (by omega)
/-- tables do not feel the pile -/
theorem AgM_su {n q i : Nat} {r r' : jS} {v : Int32} (h : AgM n r r') (hq : 43 ≤ q) : AgM n r (su r' q i v) := by
  refine ⟨fun p h1 h2 h3 t ht => by rw [su_ne (by omega)]; exact h.1 p h1 h2 h3 t ht, fun j hj => by rw [su_ne (by omega)]; exact h.2.1 j hj, fun j hj => by rw [su_ne (by omega)]; exact h.2.2 j hj⟩
theorem AgM_30 {n k : Nat} {r r' : jS} {v : Int32} (h : AgM n r r') : AgM n r (su r' 30 k v) := by
  refine ⟨fun p h1 h2 h3 t ht => by rw [su_ne (by omega)]; exact h.1 p h1 h2 h3 t ht, fun j hj => by rw [su_ne (by omega)]; exact h.2.1 j hj, fun j hj => by rw [su_ne (by omega)]; exact h.2.2 j hj⟩
theorem AgM_psh {n p : Nat} {r r' : jS} {v : Int32} (h : AgM n r r') : AgM n r (psh r' p v) :=
  AgM_30 (AgM_su (AgM_su (AgM_su (AgM_su (AgM_su h (by omega)) (by omega)) (by omega)) (by omega)) (by omega))
theorem Tm_r {c r r' : jS} {T n : Nat} (hm : AgM n r r') (h5 : r' 30 5 = r 30 5) (h : Tm c r T n) : Tm c r' T n :=
  Tm_of (Nat.le_refl n) AgX.rf hm (fun _ _ => rfl) h.1 (h5.trans h.2.1) h
theorem Ty_S {p : Nat} {c c' r r' : jS} {T : Nat} (hx : fX c c') (hm : fS p r r') (h : Ty c r T) : Ty c' r' T := by
  unfold Ty lnN at *
  rw [hx 1 (by omega), hx 2 (by omega), hx 3 (by omega), hx 4 (by omega), hm.2.1 0 (by omega) (by omega) (by omega), hm.1 31 (by omega) (by omega), hm.1 32 (by omega) (by omega), hm.1 33 (by omega) (by omega)]
  exact h
theorem Oth_S {p : Nat} {c c' r r' : jS} {T : Nat} (hx : fX c c') (hm : fS p r r') (h : Oth c r T) : Oth c' r' T := by
  unfold Oth at *
  rw [hx 0 (by omega), hx 17 (by omega), hx 18 (by omega), hx 26 (by omega), hx 27 (by omega), hx 28 (by omega), hx 29 (by omega), hm.1 34 (by omega) (by omega), hm.1 55 (by omega) (by omega), hm.1 59 (by omega) (by omega), hm.2.1 24 (by omega) (by omega) (by omega), hm.2.1 25 (by omega) (by omega) (by omega), hm.2.1 31 (by omega) (by omega) (by omega), hm.2.1 33 (by omega) (by omega) (by omega), hm.2.1 40 (by omega) (by omega) (by omega)]
  exact h
theorem pv_inj {n : Nat} {a b : Option Nat} (hn : n ≤ 1000) (ha : lo n a) (hb : lo n b) : pv a = pv b ↔ a = b := by
  constructor
  · intro h
    cases a with
    | none =>
      cases b with
      | none => rfl
      | some y => exact absurd h (ne_nI (by have := hb y rfl; omega) (by decide))
    | some x =>
      cases b with
      | none => exact absurd h (nI_ne (by have := ha x rfl; omega) (by decide))
      | some y =>
        have := ha x rfl
        have := hb y rfl
        rw [(nI_eq (by omega) (by omega)).mp h]
  · intro h; rw [h]
theorem RMD {c r : jS} {T n t k : Nat} {lx ty oa ob od lx' oa' ob' od' : Option Nat} (hT : Ty c r T) (hM : Tm c r T n) (ht : t < n) (hN : Nod c r T t k lx ty oa ob od) (hs : shp T n k lx' ty oa' ob' od') :
    ∃ (v : Int32) (c' r' : jS), xTerms_withParts c (nI t) (pv lx') (pv oa') (pv ob') (pv od') = some (v, c') ∧ m_remade r (nI t) (pv lx') (pv oa') (pv ob') (pv od') = some (v, r') ∧ fX c c' ∧ fM r r' ∧ AgX n c c' ∧ AgM n r r' ∧
      ((v = -3 ∧ c' = c ∧ Tm c' r' T n) ∨ (v = nI t ∧ c' = c ∧ r' = r ∧ lx' = lx ∧ oa' = oa ∧ ob' = ob ∧ od' = od) ∨ (v = nI n ∧ n < 400 ∧ Tm c' r' T (n + 1) ∧ Nod c' r' T n k lx' ty oa' ob' od')) := by
  have h4 := hM.2.2.1
  obtain ⟨hs0, ⟨c6, c8, c9, c10, c11, c12, -⟩, -⟩ := id hN
  obtain ⟨hk7, -, l1, l2, l3, l4, l5⟩ := id hs0
  obtain ⟨-, -, m1, m2, m3, m4, m5⟩ := id hs
  obtain ⟨⟨r35, r36, r37, r38, r39, r39b, r39c, r40, r41⟩, -⟩ := (hM.2.2.2 t ht).1
  have up : ∀ {o : Option Nat}, lo t o → lo n o := fun ho p hp => Nat.lt_trans (ho p hp) ht
  have p0 : m_part r (nI t) 0 = some (pv oa) := by
    rw [show (0 : Int32) = nI 0 from rfl, m_part_t hM ht (by omega), Nat.add_zero, r39, c10]
  have p1 : m_part r (nI t) 1 = some (pv ob) := by
    rw [show (1 : Int32) = nI 1 from rfl, m_part_t hM ht (by omega), r39b, c11]
  have p2 : m_part r (nI t) 2 = some (pv od) := by
    rw [show (2 : Int32) = nI 2 from rfl, m_part_t hM ht (by omega), r39c, c12]
  by_cases hsame : lx' = lx ∧ oa' = oa ∧ ob' = ob ∧ od' = od
  · obtain ⟨rfl, rfl, rfl, rfl⟩ := hsame
    refine ⟨nI t, c, r, ?_, ?_, fX.rf, fM.rf, AgX.rf, AgM.rf, Or.inr (Or.inl ⟨rfl, rfl, rfl, rfl, rfl, rfl, rfl⟩)⟩
    · unfold xTerms_withParts
      rw [x_letterOf_t hM.1 h4 ht, ob_s, c8, if_pos rfl, x_firstOf_t hM.1 h4 ht, ob_s, c10, if_pos rfl, x_secondOf_t hM.1 h4 ht, ob_s, c11, if_pos rfl, x_thirdOf_t hM.1 h4 ht, ob_s, c12, if_pos rfl]
    · unfold m_remade m_remade_P47
      rw [gd_t (ix_nI (by omega) (by decide)), nI_clamp (by omega), r37, c8, if_pos rfl, p0, ob_s, if_pos rfl, p1, ob_s, if_pos rfl, p2, ob_s, if_pos rfl, if_neg n10]
  · have hk0 : k ≠ 0 := by
      intro k0
      subst k0
      rcases shp_cases hs0 with ⟨-, a1, a2, a3, a4, a5⟩ | ⟨q, -⟩ | ⟨q, -⟩ | ⟨q, -⟩ | ⟨q, -⟩ | ⟨q, -⟩ | ⟨q, -⟩
      · rcases shp_cases hs with ⟨-, b1, b2, b3, b4, b5⟩ | ⟨q, -⟩ | ⟨q, -⟩ | ⟨q, -⟩ | ⟨q, -⟩ | ⟨q, -⟩ | ⟨q, -⟩
        · exact hsame ⟨b1.trans a1.symm, b3.trans a3.symm, b4.trans a4.symm, b5.trans a5.symm⟩
        all_goals omega
      all_goals omega
    obtain ⟨v, c', r', e1, e2, fx, fm, ax, am, h⟩ := MK hT hM hk0 hs
    have ex : xTerms_withParts_P40 (nI t) (pv lx') (pv oa') (pv ob') (pv od') c = some (v, c') := by
      unfold xTerms_withParts_P40
      rw [x_kindOf_t hM.1 h4 ht, ob_s, c6, x_typeOf_t hM.1 h4 ht, ob_s, c9, e1, bd_s]
    have em : m_remade_P46 (nI t) (pv lx') (pv oa') (pv ob') (pv od') r = some (v, r') := by
      unfold m_remade_P46 m_remade_P47
      rw [if_pos rfl, gd_t (ix_nI (by omega) (by decide)), gd_t (ix_nI (by omega) (by decide)), nI_clamp (by omega), r35, c6, r38, c9, e2, bd_s]
    refine ⟨v, c', r', ?_, ?_, fx, fm, ax, am, ?_⟩
    · unfold xTerms_withParts
      rw [x_letterOf_t hM.1 h4 ht, ob_s, c8, x_firstOf_t hM.1 h4 ht, ob_s, c10, x_secondOf_t hM.1 h4 ht, ob_s, c11, x_thirdOf_t hM.1 h4 ht, ob_s, c12, ex]
      by_cases q1 : pv lx' = pv lx
      · rw [if_pos q1]
        by_cases q2 : pv oa' = pv oa
        · rw [if_pos q2]
          by_cases q3 : pv ob' = pv ob
          · rw [if_pos q3, if_neg (fun q4 => hsame ⟨(pv_inj (by omega) m1 l1).mp q1, (pv_inj (by omega) m3 (up l3)).mp q2, (pv_inj (by omega) m4 (up l4)).mp q3, (pv_inj (by omega) m5 (up l5)).mp q4⟩)]
          · rw [if_neg q3]
        · rw [if_neg q2]
      · rw [if_neg q1]
    · unfold m_remade
      rw [gd_t (ix_nI (by omega) (by decide)), nI_clamp (by omega), r37, c8, p0, ob_s, p1, ob_s, p2, ob_s, em]
      by_cases q1 : pv lx' = pv lx
      · rw [if_pos q1]
        by_cases q2 : pv oa' = pv oa
        · rw [if_pos q2]
          by_cases q3 : pv ob' = pv ob
          · rw [if_pos q3, if_neg (fun q4 => hsame ⟨(pv_inj (by omega) m1 l1).mp q1, (pv_inj (by omega) m3 (up l3)).mp q2, (pv_inj (by omega) m4 (up l4)).mp q3, (pv_inj (by omega) m5 (up l5)).mp q4⟩)]
          · rw [if_neg q3]
        · rw [if_neg q2]
      · rw [if_neg q1]
    · rcases h with h | h
      · exact Or.inl h
      · exact Or.inr (Or.inr h)
