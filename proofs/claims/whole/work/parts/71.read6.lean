/-- changes of the reference that tables and tape do not feel -/
def kR (r r' : jS) : Prop := (∀ q, 31 ≤ q → q ≤ 42 → r' q = r q) ∧ r' 59 = r 59 ∧ ∀ k, k = 0 ∨ k = 5 ∨ k = 40 ∨ k = 41 ∨ k = 42 → r' 30 k = r 30 k
theorem kR.rf {r : jS} : kR r r := ⟨fun _ _ _ => rfl, rfl, fun _ _ => rfl⟩
theorem kR_su {r r' : jS} {q i : Nat} {v : Int32} (h : kR r r') (h1 : 43 ≤ q) (h2 : q ≤ 58) : kR r (su r' q i v) :=
  ⟨fun w g1 g2 => by rw [su_ne (by omega)]; exact h.1 w g1 g2, by rw [su_ne (by omega)]; exact h.2.1, fun k hk => by rw [su_ne (by omega)]; exact h.2.2 k hk⟩
theorem kR_30 {r r' : jS} {k : Nat} {v : Int32} (h : kR r r') (hk : k = 14 ∨ k = 22) : kR r (su r' 30 k v) :=
  ⟨fun w g1 g2 => by rw [su_ne (by omega)]; exact h.1 w g1 g2, by rw [su_ne (by omega)]; exact h.2.1, fun j hj => by rw [su_row, upd_n (by omega)]; exact h.2.2 j hj⟩
theorem kR_psh {r r' : jS} {p : Nat} {v : Int32} (h : kR r r') : kR r (psh r' p v) :=
  kR_30 (kR_su (kR_su (kR_su (kR_su (kR_su h (by omega) (by omega)) (by omega) (by omega)) (by omega) (by omega)) (by omega) (by omega)) (by omega) (by omega)) (by omega)
theorem kR_Ty {c r r' : jS} {T : Nat} (h : kR r r') (hT : Ty c r T) : Ty c r' T := Ty_r (fun _ _ _ => rfl) (h.2.2 0 (by omega)) (fun p h1 h2 => h.1 p (by omega) (by omega)) hT
theorem kR_Tm {c r r' : jS} {T n : Nat} (h : kR r r') (hM : Tm c r T n) : Tm c r' T n := Tm_r ⟨fun q h1 h2 h3 t _ => by rw [h.1 q (by omega) (by omega)], fun j _ => by rw [h.1 39 (by omega) (by omega)], fun j _ => by rw [h.1 42 (by omega) (by omega)]⟩ (h.2.2 5 (by omega)) hM
theorem kR_Tk {c r r' : jS} {M P : Nat} (h : kR r r') (hK : Tk M c r P) : Tk M c r' P := Tk_f hK rfl rfl h.2.1 (h.2.2 40 (by omega)) (h.2.2 41 (by omega)) (h.2.2 42 (by omega))
/-- the loop's turns -/
theorem rb_step {a b : Int32} {r r' : jS} {p : Nat} (h42 : r 30 42 = 0) (h22 : r 30 22 = -2) (h14 : r 30 14 = nI p) (hp : p < 40) (h : m_readBegin r = some ((), r')) : m_read_L31 a b r = m_read_L31 a b r' := by
  unfold m_read_L31
  refine lp_inl ?_
  show m_read_S31 a b r = _
  have t : m_read_P54_31 a b r = some (Sum.inl (a, b, r')) := by
    unfold m_read_P54_31
    rw [if_pos h22, h14, if_neg (show ¬ nI p = (40 : Int32) from fun e => absurd ((nI_eq (b := 40) (by omega) (by decide)).mp e) (by omega)), h, bd_s]
  unfold m_read_S31
  rw [if_pos h42, t, if_pos h22]
  by_cases h0 : (0 : Int32) < r 30 14
  · rw [if_pos h0]
  · rw [if_neg h0]
theorem rp_step {a b : Int32} {r r' : jS} {p q : Nat} (h42 : r 30 42 = 0) (h22 : r 30 22 = nI q) (hq : q < 400) (h14 : r 30 14 = nI (p + 1)) (hp : p < 90) (h : m_readPart r = some ((), r')) : m_read_L31 a b r = m_read_L31 a b r' := by
  unfold m_read_L31
  refine lp_inl ?_
  show m_read_S31 a b r = _
  unfold m_read_S31 m_read_P54_31
  rw [if_pos h42, h14, if_pos (show (0 : Int32) < nI (p + 1) from nI_lt (a := 0) (by omega) (by omega)), h22, if_neg (nI_ne (by omega) (by decide)), h, bd_s]
/-- what readPart stores -/
def stR (r : jS) (p s : Nat) : jS := su (su (su (su (su r 44 p (nI (s + 1))) 45 p (if s = 0 then r 30 22 else r 45 p)) 46 p (if s = 1 then r 30 22 else r 46 p)) 47 p (if s = 2 then r 30 22 else r 47 p)) 30 22 (-2)
theorem kR_stR {r : jS} {p s : Nat} : kR r (stR r p s) := kR_30 (kR_su (kR_su (kR_su (kR_su kR.rf (by omega) (by omega)) (by omega) (by omega)) (by omega) (by omega)) (by omega) (by omega)) (by omega)
theorem fRM_stR {T n p s : Nat} {r r' : jS} (h : fRM T n p r r') : fRM T n p r (stR r' p s) :=
  fRM_30 (fRM_su (fRM_su (fRM_su (fRM_su h (by omega) (by omega) (Nat.le_refl p)) (by omega) (by omega) (Nat.le_refl p)) (by omega) (by omega) (Nat.le_refl p)) (by omega) (by omega) (Nat.le_refl p)) (by omega)
theorem stR_En {r : jS} {p K s : Nat} {A B C X U G : Int32} (h : EnP r p K s A B C X U) (hG : r 30 22 = G) : EnP (stR r p s) p K (s + 1) (if s = 0 then G else A) (if s = 1 then G else B) (if s = 2 then G else C) X U ∧ (stR r p s) 30 22 = -2 := by
  obtain ⟨⟨e1, e2, e3, e4, e5, e6⟩, e7, e8⟩ := h
  unfold stR
  rw [hG, e4, e5, e6]
  refine ⟨⟨⟨e1, e2, ?_, ?_, ?_, ?_⟩, e7, e8⟩, by rw [su_row, upd_s]⟩
  · show upd (r 44) p _ p = _; rw [upd_s]
  · show upd (r 45) p _ p = _; rw [upd_s]
  · show upd (r 46) p _ p = _; rw [upd_s]
  · show upd (r 47) p _ p = _; rw [upd_s]
theorem rp_eq {r : jS} {p K s : Nat} {A B C X U : Int32} (h : EnP r p K s A B C X U) (hp : p < 90) (hs : s ≤ 2) : m_readPart r = (if nI s = 0 then (if nI K = 3 then ob (m_byteHere (stR r p s)) (fun r15 => if r15 = 43 then m_readPart_P136 (nI p) 5 (stR r p s) else m_readPart_P136 (nI p) 3 (stR r p s)) else m_readPart_P160 (nI p) (nI K) (nI s) (stR r p s)) else m_readPart_P160 (nI p) (nI K) (nI s) (stR r p s)) := by
  obtain ⟨⟨e1, e2, e3, e4, e5, e6⟩, e7, e8⟩ := h
  have i1 : ix (nI p) 90 = true := ix_nI hp (by decide)
  have kp : (nI p).toNatClampNeg = p := nI_clamp (by omega)
  unfold m_readPart m_readPart_P57 m_readPart_P79 m_readPart_P101
  rw [e1, nI_pred]
  simp only [gd_t i1, ltS, kp]
  rw [e2, e3, nI_1]
  rcases (show s = 0 ∨ s = 1 ∨ s = 2 by omega) with rfl | rfl | rfl
  · rw [if_pos (by decide), if_neg (by decide), if_neg (by decide)]
    rfl
  · rw [if_neg (by decide), if_pos (by decide), if_neg (by decide)]
    rfl
  · rw [if_neg (by decide), if_neg (by decide), if_pos (by decide)]
    rfl
/-- the make at the end of a part -/
theorem r238 {R : jS} {p K : Nat} {A B C X U : Int32} {s : Nat} (h : EnP R p K s A B C X U) (hp : p < 90) (hK : K < 7) (h42 : R 30 42 = 0) :
    m_readPart_P238 (nI p) (nI K) R = bd (m_make (su R 30 14 (nI p)) (nI K) 0 (if K = 2 ∨ K = 4 then X else -2) (if K = 2 then U else -2) A B C) (fun v r1 => bd (m_made r1 v) (fun _ r2 => some ((), r2))) := by
  obtain ⟨⟨e1, e2, e3, e4, e5, e6⟩, e7, e8⟩ := h
  have i1 : ix (nI p) 90 = true := ix_nI hp (by decide)
  have kp : (nI p).toNatClampNeg = p := nI_clamp (by omega)
  have c2 : (nI K = (2 : Int32)) ↔ K = 2 := nI_eq (b := 2) (by omega) (by decide)
  have c4 : (nI K = (4 : Int32)) ↔ K = 4 := nI_eq (b := 4) (by omega) (by decide)
  unfold m_readPart_P238 m_readPart_P265 m_readPart_P270 m_readPart_P292 m_readPart_P308
  rw [if_pos h42, e1, nI_pred, ltS]
  simp only [gd_t i1, kp]
  have g45 : (su R 30 14 (nI p)) 45 p = A := e4
  have g46 : (su R 30 14 (nI p)) 46 p = B := e5
  have g47 : (su R 30 14 (nI p)) 47 p = C := e6
  have g48 : (su R 30 14 (nI p)) 48 p = X := e7
  have g49 : (su R 30 14 (nI p)) 49 p = U := e8
  rw [g45, g46, g47, g48, g49]
  by_cases h2 : K = 2
  · subst h2
    rw [if_pos (by decide), if_neg n10, if_pos (by decide), if_pos (by omega), if_pos rfl]
  · rw [if_neg (fun e => h2 (c2.mp e)), if_neg h2]
    by_cases h4 : K = 4
    · subst h4
      rw [if_pos (by decide), if_neg n10, if_neg (by decide), if_pos (by omega)]
    · rw [if_neg (fun e => h4 (c4.mp e)), if_pos trivial, if_neg (fun e => h2 (c2.mp e)), if_neg (show ¬ (K = 2 ∨ K = 4) by omega)]
theorem r238_n {R : jS} {x y : Int32} (h42 : ¬ R 30 42 = 0) : m_readPart_P238 x y R = some ((), R) := by
  unfold m_readPart_P238
  rw [if_neg h42]
