def fXY (T : Nat) (c c' : jS) : Prop := (∀ p, p = 0 ∨ (4 < p ∧ p ≠ 17 ∧ p ≠ 19) → c' p = c p) ∧ ∀ i, i < T → c' 2 i = c 2 i ∧ c' 3 i = c 3 i ∧ c' 4 i = c 4 i
def fMY (T p : Nat) (r r' : jS) : Prop := (∀ q, q < 30 ∨ (33 < q ∧ q < 43) ∨ 50 < q → r' q = r q) ∧ (∀ k, k ≠ 0 → k ≠ 14 → k ≠ 22 → k ≠ 24 → k ≠ 25 → r' 30 k = r 30 k) ∧ (∀ i, i < T → r' 31 i = r 31 i ∧ r' 32 i = r 32 i ∧ r' 33 i = r 33 i) ∧ ∀ q, 43 ≤ q → q ≤ 49 → ∀ i, i < p → r' q i = r q i
theorem fXY.rf {T : Nat} {c : jS} : fXY T c c := ⟨fun _ _ => rfl, fun _ _ => ⟨rfl, rfl, rfl⟩⟩
theorem fMY.rf {T p : Nat} {r : jS} : fMY T p r r := ⟨fun _ _ => rfl, fun _ _ _ _ _ _ => rfl, fun _ _ => ⟨rfl, rfl, rfl⟩, fun _ _ _ _ _ => rfl⟩
theorem fXY.tr {T T' : Nat} {a b c : jS} (hT : T ≤ T') (h : fXY T a b) (h' : fXY T' b c) : fXY T a c :=
  ⟨fun p hp => (h'.1 p hp).trans (h.1 p hp), fun i hi => ⟨(h'.2 i (by omega)).1.trans (h.2 i hi).1, (h'.2 i (by omega)).2.1.trans (h.2 i hi).2.1, (h'.2 i (by omega)).2.2.trans (h.2 i hi).2.2⟩⟩
theorem fMY.tr {T T' p p' : Nat} {a b c : jS} (hT : T ≤ T') (hp : p ≤ p') (h : fMY T p a b) (h' : fMY T' p' b c) : fMY T p a c :=
  ⟨fun q hq => (h'.1 q hq).trans (h.1 q hq), fun k h1 h2 h3 h4 h5 => (h'.2.1 k h1 h2 h3 h4 h5).trans (h.2.1 k h1 h2 h3 h4 h5), fun i hi => ⟨(h'.2.2.1 i (by omega)).1.trans (h.2.2.1 i hi).1, (h'.2.2.1 i (by omega)).2.1.trans (h.2.2.1 i hi).2.1, (h'.2.2.1 i (by omega)).2.2.trans (h.2.2.1 i hi).2.2⟩, fun q h1 h2 i hi => (h'.2.2.2 q h1 h2 i (by omega)).trans (h.2.2.2 q h1 h2 i hi)⟩
theorem fXY_T {T : Nat} {c c' : jS} (h : fXT T c c') : fXY T c c' := ⟨fun p hp => h.1 p (by omega), h.2⟩
theorem fMY_T {T p : Nat} {r r' : jS} (h : fMT T r r') : fMY T p r r' := ⟨fun q hq => h.1 q (by omega), fun k h1 _ _ _ _ => h.2.1 k h1, h.2.2, fun q h1 h2 i _ => by rw [h.1 q (by omega)]⟩
theorem fXY_su {T q i : Nat} {c c' : jS} {v : Int32} (h : fXY T c c') (hq : q = 17 ∨ q = 19) : fXY T c (su c' q i v) :=
  ⟨fun p hp => by rw [su_ne (by omega)]; exact h.1 p hp, fun j hj => by rw [su_ne (by omega), su_ne (by omega), su_ne (by omega)]; exact h.2 j hj⟩
theorem fMY_su {T p q i : Nat} {r r' : jS} {v : Int32} (h : fMY T p r r') (h1 : 43 ≤ q) (h2 : q ≤ 50) (hi : p ≤ i ∨ q = 50) : fMY T p r (su r' q i v) := by
  refine ⟨fun w g => by rw [su_ne (by omega)]; exact h.1 w g, fun k g1 g2 g3 g4 g5 => by rw [su_ne (by omega)]; exact h.2.1 k g1 g2 g3 g4 g5, fun j hj => by rw [su_ne (by omega), su_ne (by omega), su_ne (by omega)]; exact h.2.2.1 j hj, fun w g1 g2 j hj => ?_⟩
  by_cases hw : w = q
  · subst hw; rw [su_row, upd_n (by omega)]; exact h.2.2.2 w g1 g2 j hj
  · rw [su_ne hw]; exact h.2.2.2 w g1 g2 j hj
theorem fMY_30 {T p k : Nat} {r r' : jS} {v : Int32} (h : fMY T p r r') (hk : k = 14 ∨ k = 22 ∨ k = 24 ∨ k = 25) : fMY T p r (su r' 30 k v) :=
  ⟨fun w g => by rw [su_ne (by omega)]; exact h.1 w g, fun j g1 g2 g3 g4 g5 => by rw [su_row, upd_n (by omega)]; exact h.2.1 j g1 g2 g3 g4 g5, fun j hj => by rw [su_ne (by omega), su_ne (by omega), su_ne (by omega)]; exact h.2.2.1 j hj, fun w g1 g2 j hj => by rw [su_ne (by omega)]; exact h.2.2.2 w g1 g2 j hj⟩
theorem fMY_psh {T p p' : Nat} {r r' : jS} {v : Int32} (h : fMY T p r r') (hp : p ≤ p') : fMY T p r (psh r' p' v) :=
  fMY_30 (fMY_su (fMY_su (fMY_su (fMY_su (fMY_su h (by omega) (by omega) (Or.inl hp)) (by omega) (by omega) (Or.inl hp)) (by omega) (by omega) (Or.inl hp)) (by omega) (by omega) (Or.inl hp)) (by omega) (by omega) (Or.inl hp)) (by omega)
theorem Tm_Y {T n p : Nat} {c c' r r' : jS} (hx : fXY T c c') (hm : fMY T p r r') (h : Tm c r T n) : Tm c' r' T n :=
  Tm_of (Nat.le_refl n) (fun q h1 h2 t _ => by rw [hx.1 q (by omega)]) ⟨fun q h1 h2 _ t _ => by rw [hm.1 q (by omega)], fun j _ => by rw [hm.1 39 (by omega)], fun j _ => by rw [hm.1 42 (by omega)]⟩ (fun i hi => (hx.2 i hi).2.2) (by rw [hx.1 5 (by omega)]; exact h.1) (by rw [hm.2.1 5 (by omega) (by omega) (by omega) (by omega) (by omega)]; exact h.2.1) h
/-- the types' tables do not feel the walk's own rows -/
theorem Ty_r {c c' r r' : jS} {T : Nat} (hx : ∀ p, 1 ≤ p → p ≤ 4 → c' p = c p) (h0 : r' 30 0 = r 30 0) (hm : ∀ p, 31 ≤ p → p ≤ 33 → r' p = r p) (h : Ty c r T) : Ty c' r' T := by
  unfold Ty lnN at *
  rw [hx 1 (by omega) (by omega), hx 2 (by omega) (by omega), hx 3 (by omega) (by omega), hx 4 (by omega) (by omega), h0, hm 31 (by omega) (by omega), hm 32 (by omega) (by omega), hm 33 (by omega) (by omega)]
  exact h
def Ev (c r : jS) (T : Nat) : Prop := ∀ x, x < 26 → r 50 x = c 19 x ∧ (c 19 x = -2 ∨ ∃ y, y < T ∧ c 19 x = nI y)
def Tw (c r : jS) (T n : Nat) : Prop := Ty c r T ∧ Tm c r T n ∧ Ev c r T ∧ r 30 24 = 0
def TR (T p : Nat) (c r : jS) (v : Int32) (c' r' : jS) : Prop := ∃ T', T ≤ T' ∧ Ty c' r' T' ∧ fXY T c c' ∧ fMY T p r r' ∧
  ((v = -3 ∧ r' 30 22 = -3 ∧ r' 30 24 = 0 ∧ r' 30 25 = r 30 25 ∧ c' 17 = c 17) ∨
   (v = -2 ∧ 0 < r' 30 24 ∧ r' 30 24 = c' 17 4 ∧ r' 30 25 = c' 17 5) ∨
   ∃ y, y < T' ∧ v = nI y ∧ r' 30 22 = nI y ∧ r' 30 14 = nI p ∧ r' 30 24 = 0 ∧ r' 30 25 = r 30 25 ∧ c' 17 = c 17 ∧ c' 19 = c 19 ∧ r' 50 = r 50)
theorem Ev_mono {c r : jS} {T T' : Nat} (h : T ≤ T') (e : Ev c r T) : Ev c r T' := by
  intro x hx
  obtain ⟨a, b⟩ := e x hx
  refine ⟨a, ?_⟩
  rcases b with b | ⟨y, hy, b⟩
  · exact Or.inl b
  · exact Or.inr ⟨y, by omega, b⟩
theorem Tw_next {c c1 r r1 : jS} {T T1 n p : Nat} (h : Tw c r T n) (hT : T ≤ T1) (hY : Ty c1 r1 T1) (fx : fXY T c c1) (fm : fMY T p r r1) (h19 : c1 19 = c 19) (h50 : r1 50 = r 50) (h24 : r1 30 24 = 0) : Tw c1 r1 T1 n := by
  refine ⟨hY, Tm_mono hT (Tm_Y fx fm h.2.1), Ev_mono hT ?_, h24⟩
  intro x hx
  rw [h19, h50]
  exact h.2.2.1 x hx
/-- a walk behind a walk that went well -/
theorem TR_seq {T T1 p : Nat} {c c1 c' r r1 r' : jS} {v : Int32} (hT : T ≤ T1) (fx : fXY T c c1) (fm : fMY T p r r1) (h17 : c1 17 = c 17) (h19 : c1 19 = c 19) (h50 : r1 50 = r 50) (h25 : r1 30 25 = r 30 25) (h : TR T1 p c1 r1 v c' r') : TR T p c r v c' r' := by
  obtain ⟨T', a1, a2, a3, a4, a5⟩ := h
  refine ⟨T', by omega, a2, fx.tr hT a3, fm.tr hT (Nat.le_refl p) a4, ?_⟩
  rcases a5 with ⟨b1, b2, b3, b4, b5⟩ | b | ⟨y, b1, b2, b3, b4, b5, b6, b7, b8, b9⟩
  · exact Or.inl ⟨b1, b2, b3, b4.trans h25, b5.trans h17⟩
  · exact Or.inr (Or.inl b)
  · exact Or.inr (Or.inr ⟨y, b1, b2, b3, b4, b5, b6.trans h25, b7.trans h17, b8.trans h19, b9.trans h50⟩)
def flX (c : jS) (w : Int32) (a : Nat) : jS := su (su c 17 4 w) 17 5 (nI a)
def flM (r : jS) (w : Int32) (a : Nat) : jS := su (su (su r 30 24 w) 30 25 (nI a)) 30 22 (-2)
theorem x_faulty {c : jS} {w : Int32} {a : Nat} : xTypist_faulty c w (nI a) = some (-2, flX c w a) := rfl
theorem m_faults_t {r : jS} {w : Int32} {a : Nat} : m_faults r w (nI a) = some ((), flM r w a) := rfl
theorem TR_fault {T p a : Nat} {c r r0 : jS} {w : Int32} (hT : Ty c r0 T) (fm : fMY T p r r0) (hw : 0 < w) : TR T p c r (-2) (flX c w a) (flM r0 w a) := by
  refine ⟨T, Nat.le_refl T, Ty_r (fun q h1 h2 => ?_) ?_ (fun q h1 h2 => ?_) hT, fXY_su (fXY_su fXY.rf (by omega)) (by omega), fMY_30 (fMY_30 (fMY_30 fm (by omega)) (by omega)) (by omega), Or.inr (Or.inl ⟨rfl, ?_, ?_, ?_⟩)⟩
  · unfold flX; rw [su_ne (by omega), su_ne (by omega)]
  · rfl
  · unfold flM; rw [su_ne (by omega), su_ne (by omega), su_ne (by omega)]
  · exact hw
  · rfl
  · rfl
theorem L67_s {r r' : jS} {v2 : Int32} (h : m_type_S67 v2 r = some (Sum.inl (v2, r'))) : m_type_L67 v2 r = m_type_L67 v2 r' := by
  unfold m_type_L67
  exact lp_inl h
/-- the turn at a frame, by kind -/
theorem ty_turn {c r : jS} {T n p t s K : Nat} {A B C v2 : Int32} (hM : Tm c r T n) (ht : t < n) (E : En r p t s A B C) (hp : p < 90) (hK7 : K < 7) (hK : c 6 t = nI K) (h24 : r 30 24 = 0) (hg : r 30 22 ≠ -3) :
    m_type_S67 v2 r = (if K = 0 then some (Sum.inl (v2, su (su (su r 44 p (nI (s + 1))) 30 22 0) 30 14 (nI p)))
      else if K = 1 then gd (ix (c 8 t) 26) (if r 50 (c 8 t).toNatClampNeg = -2 then some (Sum.inl (v2, flM (su (su (su r 44 p (nI (s + 1))) 30 22 (r 50 (c 8 t).toNatClampNeg)) 30 14 (nI p)) 1 t)) else some (Sum.inl (v2, su (su (su r 44 p (nI (s + 1))) 30 22 (r 50 (c 8 t).toNatClampNeg)) 30 14 (nI p))))
      else if K = 2 ∨ K = 4 then bd (m_typeOfBinder (su r 44 p (nI (s + 1))) (nI p) (nI t) (nI s)) (fun _ c9 => some (Sum.inl (v2, c9)))
      else if K = 3 then bd (m_typeOfCall (su r 44 p (nI (s + 1))) (nI p) (nI t) (nI s)) (fun _ c9 => some (Sum.inl (v2, c9)))
      else bd (m_typeOfNumbers (su r 44 p (nI (s + 1))) (nI p) (nI t) (nI s)) (fun _ c9 => some (Sum.inl (v2, c9)))) := by
  have h4 := hM.2.2.1
  obtain ⟨e1, e2, e3, e4, e5, e6⟩ := E
  obtain ⟨⟨r35, -, r37, -⟩, -⟩ := (hM.2.2.2 t ht).1
  have i1 : ix (nI p) 90 = true := ix_nI hp (by decide)
  have i2 : ix (nI t) 400 = true := ix_nI (by omega) (by decide)
  unfold m_type_S67
  rw [e1, if_neg (nI_nle (by omega) (by omega)), if_pos h24, if_neg hg, nI_pred]
  simp only [gd_t i1]
  rw [nI_clamp (show p < 2 ^ 31 by omega), e2, e3, ltS, nI_1]
  simp only [gd_t i2]
  rw [nI_clamp (show t < 2 ^ 31 by omega), show (su r 44 p (nI (s + 1))) 35 t = nI K from r35.trans hK, show (su r 44 p (nI (s + 1))) 37 t = c 8 t from r37]
  rcases (show K = 0 ∨ K = 1 ∨ K = 2 ∨ K = 3 ∨ K = 4 ∨ K = 5 ∨ K = 6 by omega) with rfl | rfl | rfl | rfl | rfl | rfl | rfl
  · rw [if_pos (by decide), if_pos rfl, ltS, ltS]
    show some (Sum.inl (v2, su (su (su r 44 p (nI (s + 1))) 30 22 0) 30 14 (upd (r 30) 22 0 14 - 1))) = _
    rw [upd_n (by omega), e1, nI_pred]
  · rw [if_neg (by decide), if_pos (by decide), if_neg (by decide), if_pos rfl, ltS, ltS]
    have q1 : (su (su r 44 p (nI (s + 1))) 30 22 ((su r 44 p (nI (s + 1))) 50 (c 8 t).toNatClampNeg)) 30 14 = nI (p + 1) := by rw [su_row, upd_n (by omega)]; exact e1
    rw [q1, nI_pred]
    rfl
  · rw [if_neg (by decide), if_neg (by decide), if_pos (by decide), if_neg (by decide), if_neg (by decide), if_pos (by decide)]
  · rw [if_neg (by decide), if_neg (by decide), if_neg (by decide), if_neg (by decide), if_pos (by decide), if_neg (by decide), if_neg (by decide), if_neg (by decide), if_pos rfl]
  · rw [if_neg (by decide), if_neg (by decide), if_neg (by decide), if_pos (by decide), if_neg (by decide), if_neg (by decide), if_pos (by decide)]
  · rw [if_neg (by decide), if_neg (by decide), if_neg (by decide), if_neg (by decide), if_neg (by decide), if_neg (by decide), if_neg (by decide), if_neg (by decide), if_neg (by decide)]
  · rw [if_neg (by decide), if_neg (by decide), if_neg (by decide), if_neg (by decide), if_neg (by decide), if_neg (by decide), if_neg (by decide), if_neg (by decide), if_neg (by decide)]
