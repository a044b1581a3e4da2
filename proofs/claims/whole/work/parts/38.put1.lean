theorem nl_L {c r : jS} {T n b u : Nat} (hM : Tm c r T n) (hb : b < n) (hu : u < n) : ∀ (k z : Nat), z + k = 26 → ∃ v : Int32, xPutter_letterFor_L17 (nI b) (nI u) (nI z) c = some v ∧ m_newLetter_L2 (nI b) (nI u) (nI z) r = some v ∧ (v = -3 ∨ ∃ z', z' < 26 ∧ v = nI z' ∧ ¬ 0 < frN r u z')
  | 0, z, h => by
    have hz : z = 26 := by omega
    subst hz
    have e : (26 : Int32) ≤ nI 26 := nI_le (Nat.le_refl _) (by decide)
    refine ⟨-3, ?_, ?_, Or.inl rfl⟩
    · unfold xPutter_letterFor_L17
      refine lp_inr ?_
      show xPutter_letterFor_S17 (nI b) (nI u) (nI 26) c = _
      unfold xPutter_letterFor_S17
      rw [if_pos e]
    · unfold m_newLetter_L2
      refine lp_inr ?_
      show m_newLetter_S2 (nI b) (nI u) (nI 26) r = _
      unfold m_newLetter_S2 m_newLetter_P32_2
      rw [if_pos e, if_pos e]
  | k + 1, z, h => by
    have hz : z < 26 := by omega
    have hn : ¬ (26 : Int32) ≤ nI z := nI_ge (b := 26) hz (by decide)
    obtain ⟨v, q1, q2, q3⟩ := nl_L hM hb hu k (z + 1) (by omega)
    have next : (0 < frN r b z ∨ 0 < frN r u z) → ∃ v : Int32, xPutter_letterFor_L17 (nI b) (nI u) (nI z) c = some v ∧ m_newLetter_L2 (nI b) (nI u) (nI z) r = some v ∧ (v = -3 ∨ ∃ z', z' < 26 ∧ v = nI z' ∧ ¬ 0 < frN r u z') := by
      intro hor
      refine ⟨v, ?_, ?_, q3⟩
      · rw [← q1]
        unfold xPutter_letterFor_L17
        refine lp_inl ?_
        show xPutter_letterFor_S17 (nI b) (nI u) (nI z) c = _
        unfold xPutter_letterFor_S17
        rw [if_neg hn, x_isFree hM hb hz, ob_s, x_isFree hM hu hz, ob_s, nI_1]
        by_cases h1 : 0 < frN r b z
        · rw [if_pos h1, if_neg n10]
        · rw [if_neg h1, if_pos rfl, if_pos (show 0 < frN r u z by omega), if_neg n10]
      · rw [← q2]
        unfold m_newLetter_L2
        refine lp_inl ?_
        show m_newLetter_S2 (nI b) (nI u) (nI z) r = _
        unfold m_newLetter_S2
        rw [if_neg hn, m_isFr hM hb hz, ob_s, m_isFr hM hu hz, ob_s, nI_1]
        by_cases h1 : 0 < frN r b z
        · rw [if_pos h1, if_neg n10]
        · rw [if_neg h1, if_pos rfl, if_pos (show 0 < frN r u z by omega), if_neg n10]
    by_cases h1 : 0 < frN r b z
    · exact next (Or.inl h1)
    · by_cases h2 : 0 < frN r u z
      · exact next (Or.inr h2)
      · refine ⟨nI z, ?_, ?_, Or.inr ⟨z, hz, rfl, h2⟩⟩
        · unfold xPutter_letterFor_L17
          refine lp_inr ?_
          show xPutter_letterFor_S17 (nI b) (nI u) (nI z) c = _
          unfold xPutter_letterFor_S17
          rw [if_neg hn, x_isFree hM hb hz, ob_s, x_isFree hM hu hz, ob_s, if_neg h1, if_pos rfl, if_neg h2, if_pos rfl]
        · unfold m_newLetter_L2
          refine lp_inr ?_
          show m_newLetter_S2 (nI b) (nI u) (nI z) r = _
          unfold m_newLetter_S2 m_newLetter_P32_2
          rw [if_neg hn, m_isFr hM hb hz, ob_s, m_isFr hM hu hz, ob_s, if_neg h1, if_pos rfl, if_neg h2, if_pos rfl, if_neg hn]
def pshP (r : jS) (p : Nat) (v x u : Int32) : jS := su (su (psh r p v) 48 p x) 49 p u
theorem m_pushPut_t {r : jS} {p : Nat} {v x u : Int32} (h : r 30 14 = nI p) (hp : p < 90) : m_pushPut r v x u = some ((), pshP r p v x u) := by
  unfold m_pushPut
  have e : (psh r p v) 30 14 = nI (p + 1) := by unfold psh; rw [su_row, upd_s]
  rw [m_push_t h hp, bd_s, e, nI_pred, gd_t (ix_nI (by omega) (by decide)), ltS, nI_clamp (by omega), show (su (psh r p v) 48 p x) 30 14 = nI (p + 1) from e, nI_pred, gd_t (ix_nI (by omega) (by decide)), ltS, nI_clamp (by omega)]
  rfl
theorem fS_pshP {p p' : Nat} {r r' : jS} {v x u : Int32} (h : fS p r r') (hp : p ≤ p') : fS p r (pshP r' p' v x u) := fS_su (fS_su (fS_psh h hp) (by omega) (by omega) hp) (by omega) (by omega) hp
theorem AgM_pshP {n p : Nat} {r r' : jS} {v x u : Int32} (h : AgM n r r') : AgM n r (pshP r' p v x u) := AgM_su (AgM_su (AgM_psh h) (by omega)) (by omega)
theorem pshP_5 {r : jS} {p : Nat} {v x u : Int32} {k : Nat} (hk : k ≠ 14) : (pshP r p v x u) 30 k = r 30 k := psh_5 hk
/-- an entry with its letter and its term -/
def EnP (r : jS) (p t s : Nat) (A B C X U : Int32) : Prop := En r p t s A B C ∧ r 48 p = X ∧ r 49 p = U
theorem EnP_psh {r : jS} {p t : Nat} {x u : Int32} : EnP (pshP r p (nI t) x u) p t 0 (-2) (-2) (-2) x u := by
  refine ⟨En_psh, ?_, ?_⟩
  · show upd (r 48) p x p = x; exact upd_s
  · show upd (r 49) p u p = u; exact upd_s
theorem put_step {r r' : jS} {v4 : Int32} {p : Nat} (h14 : r 30 14 = nI (p + 1)) (hp : p < 90) (hg : r 30 22 ≠ -3) (ht : m_putTurn r = some ((), r')) : m_putOf_L23 v4 r = m_putOf_L23 v4 r' := by
  unfold m_putOf_L23
  refine lp_inl ?_
  show m_putOf_S23 v4 r = _
  unfold m_putOf_S23
  rw [h14, if_neg (nI_nle (by omega) (by omega)), if_neg hg, ht, bd_s]
/-- a turn -/
theorem pt_eq {c r : jS} {T n p t s k x : Nat} {A B C U : Int32} (hM : Tm c r T n) (ht : t < n) (h : EnP r p t s A B C (nI x) U) (hp : p < 90) (hs : s < 100) (hx : x < 26) (h6 : c 6 t = nI k) :
    m_putTurn r = if s = 0 then (if 0 < frN r t x then m_putTurn_P75 (nI p) (nI t) (nI s) (nI k) (su r 44 p (nI (s + 1))) else some ((), su (su (su r 44 p (nI (s + 1))) 30 22 (nI t)) 30 14 (nI p))) else m_putTurn_P75 (nI p) (nI t) (nI s) (nI k) (su r 44 p (nI (s + 1))) := by
  have h4 := hM.2.2.1
  obtain ⟨⟨e1, e2, e3, e4, e5, e6⟩, e7, e8⟩ := h
  have hM1 : Tm c (su r 44 p (nI (s + 1))) T n := Tm_r (AgM_su AgM.rf (by omega)) rfl hM
  have r35 : (su r 44 p (nI (s + 1))) 35 t = nI k := (hM1.2.2.2 t ht).1.1.1.trans h6
  unfold m_putTurn
  have g : ∀ {α : Type} {x : Option α}, gd (ix (nI p) 90) x = x := fun {α x} => gd_t (ix_nI (by omega) (by decide))
  have gt : ∀ {α : Type} {x : Option α}, gd (ix (nI t) 400) x = x := fun {α x} => gd_t (ix_nI (by omega) (by decide))
  rw [e1, nI_pred]
  simp only [g, ltS, nI_clamp (show p < 2 ^ 31 by omega)]
  rw [e2, e3, nI_1, gt, nI_clamp (by omega), r35]
  have e48 : (su r 44 p (nI (s + 1))) 48 p = nI x := e7
  rw [e48, m_isFr hM1 ht hx, ob_s]
  have fe : frN (su r 44 p (nI (s + 1))) t x = frN r t x := rfl
  rw [fe]
  have c0 : (nI s = (0 : Int32)) ↔ s = 0 := nI_eq (b := 0) (by omega) (by decide)
  by_cases h0 : s = 0
  · rw [if_pos (c0.mpr h0), if_pos h0]
    by_cases hf : 0 < frN r t x
    · rw [if_pos hf, if_neg n10, if_pos hf]
    · rw [if_neg hf, if_pos rfl, if_neg hf, show (su (su r 44 p (nI (s + 1))) 30 22 (nI t)) 30 14 = nI (p + 1) from (by rw [su_row, upd_n (by omega)]; exact e1), nI_pred]
  · rw [if_neg (fun e => h0 (c0.mp e)), if_neg h0]
