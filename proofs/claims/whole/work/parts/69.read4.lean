def fRX (T n : Nat) (c c' : jS) : Prop := (∀ p, p = 0 ∨ 16 < p → p ≠ 28 → c' p = c p) ∧ (∀ i, i < T → c' 2 i = c 2 i ∧ c' 3 i = c 3 i ∧ c' 4 i = c 4 i) ∧ AgX n c c' ∧ ∀ k, k ≠ 4 → c' 28 k = c 28 k
def fRM (T n p : Nat) (r r' : jS) : Prop := (∀ q, q < 30 ∨ q = 34 ∨ (49 < q ∧ q < 57) ∨ 58 < q → r' q = r q) ∧ (∀ k, k ≠ 0 → k ≠ 5 → k ≠ 14 → k ≠ 22 → k ≠ 41 → k ≠ 42 → r' 30 k = r 30 k) ∧ (∀ i, i < T → r' 31 i = r 31 i ∧ r' 32 i = r 32 i ∧ r' 33 i = r 33 i) ∧ AgM n r r' ∧ ∀ q, 43 ≤ q → q ≤ 49 → ∀ i, i < p → r' q i = r q i
theorem fRX.rf {T n : Nat} {c : jS} : fRX T n c c := ⟨fun _ _ _ => rfl, fun _ _ => ⟨rfl, rfl, rfl⟩, AgX.rf, fun _ _ => rfl⟩
theorem fRM.rf {T n p : Nat} {r : jS} : fRM T n p r r := ⟨fun _ _ => rfl, fun _ _ _ _ _ _ _ => rfl, fun _ _ => ⟨rfl, rfl, rfl⟩, AgM.rf, fun _ _ _ _ _ => rfl⟩
theorem fRX.tr {T T' n n' : Nat} {a b c : jS} (hT : T ≤ T') (hn : n ≤ n') (h : fRX T n a b) (h' : fRX T' n' b c) : fRX T n a c :=
  ⟨fun p hp h28 => (h'.1 p hp h28).trans (h.1 p hp h28), fun i hi => ⟨(h'.2.1 i (by omega)).1.trans (h.2.1 i hi).1, (h'.2.1 i (by omega)).2.1.trans (h.2.1 i hi).2.1, (h'.2.1 i (by omega)).2.2.trans (h.2.1 i hi).2.2⟩, h.2.2.1.tr hn h'.2.2.1, fun k hk => (h'.2.2.2 k hk).trans (h.2.2.2 k hk)⟩
theorem fRM.tr {T T' n n' p p' : Nat} {a b c : jS} (hT : T ≤ T') (hn : n ≤ n') (hp : p ≤ p') (h : fRM T n p a b) (h' : fRM T' n' p' b c) : fRM T n p a c :=
  ⟨fun q hq => (h'.1 q hq).trans (h.1 q hq), fun k h1 h2 h3 h4 h5 h6 => (h'.2.1 k h1 h2 h3 h4 h5 h6).trans (h.2.1 k h1 h2 h3 h4 h5 h6), fun i hi => ⟨(h'.2.2.1 i (by omega)).1.trans (h.2.2.1 i hi).1, (h'.2.2.1 i (by omega)).2.1.trans (h.2.2.1 i hi).2.1, (h'.2.2.1 i (by omega)).2.2.trans (h.2.2.1 i hi).2.2⟩, h.2.2.2.1.tr hn h'.2.2.2.1, fun q h1 h2 i hi => (h'.2.2.2.2 q h1 h2 i (by omega)).trans (h.2.2.2.2 q h1 h2 i hi)⟩
theorem fRX_T {T n : Nat} {c c' : jS} (h : fTX T c c') : fRX T n c c' := ⟨fun p hp h28 => h.1 p (by omega) h28, h.2.1, fun p h1 h2 t _ => by rw [h.1 p (by omega) (by omega)], h.2.2⟩
theorem fRM_T {T n p m : Nat} {r r' : jS} (h : fTM T m r r') : fRM T n p r r' := ⟨fun q hq => h.1 q (by omega), fun k h1 h2 h3 h4 h5 h6 => h.2.1 k h1 h5 h6, h.2.2.1, ⟨fun q h1 h2 h3 t _ => by rw [h.1 q (by omega)], fun j _ => by rw [h.1 39 (by omega)], fun j _ => by rw [h.1 42 (by omega)]⟩, fun q h1 h2 i _ => by rw [h.1 q (by omega)]⟩
theorem fRX_X {T n : Nat} {c c' : jS} (h : fX c c') (a : AgX n c c') : fRX T n c c' := ⟨fun p hp _ => h p (by omega), fun i _ => by rw [h 2 (by omega), h 3 (by omega), h 4 (by omega)]; exact ⟨rfl, rfl, rfl⟩, a, fun k _ => by rw [h 28 (by omega)]⟩
theorem fRM_M {T n p : Nat} {r r' : jS} (h : fM r r') (a : AgM n r r') : fRM T n p r r' := ⟨fun q hq => h.1 q (by omega) (by omega), fun k h1 h2 h3 h4 h5 h6 => h.2 k h2, fun i _ => by rw [h.1 31 (by omega) (by omega), h.1 32 (by omega) (by omega), h.1 33 (by omega) (by omega)]; exact ⟨rfl, rfl, rfl⟩, a, fun q h1 h2 i _ => by rw [h.1 q (by omega) (by omega)]⟩
theorem fRX_su {T n : Nat} {c c' : jS} {v : Int32} (h : fRX T n c c') : fRX T n c (su c' 28 4 v) :=
  ⟨fun p hp h28 => by rw [su_ne h28]; exact h.1 p hp h28, fun i hi => by rw [su_ne (by omega), su_ne (by omega), su_ne (by omega)]; exact h.2.1 i hi, fun p h1 h2 t ht => by rw [su_ne (by omega)]; exact h.2.2.1 p h1 h2 t ht, fun k hk => by rw [su_row, upd_n hk]; exact h.2.2.2 k hk⟩
theorem fRM_su {T n p q i : Nat} {r r' : jS} {v : Int32} (h : fRM T n p r r') (h1 : 43 ≤ q) (h2 : q ≤ 49) (hi : p ≤ i) : fRM T n p r (su r' q i v) := by
  refine ⟨fun w g => by rw [su_ne (by omega)]; exact h.1 w g, fun k g1 g2 g3 g4 g5 g6 => by rw [su_ne (by omega)]; exact h.2.1 k g1 g2 g3 g4 g5 g6, fun j hj => by rw [su_ne (by omega), su_ne (by omega), su_ne (by omega)]; exact h.2.2.1 j hj, AgM_su h.2.2.2.1 h1, fun w g1 g2 j hj => ?_⟩
  by_cases e : w = q
  · subst e; rw [su_row, upd_n (by omega)]; exact h.2.2.2.2 w g1 g2 j hj
  · rw [su_ne e]; exact h.2.2.2.2 w g1 g2 j hj
theorem fRM_30 {T n p k : Nat} {r r' : jS} {v : Int32} (h : fRM T n p r r') (hk : k = 14 ∨ k = 22 ∨ k = 41 ∨ k = 42) : fRM T n p r (su r' 30 k v) :=
  ⟨fun w g => by rw [su_ne (by omega)]; exact h.1 w g, fun j g1 g2 g3 g4 g5 g6 => by rw [su_row, upd_n (by omega)]; exact h.2.1 j g1 g2 g3 g4 g5 g6, fun j hj => by rw [su_ne (by omega), su_ne (by omega), su_ne (by omega)]; exact h.2.2.1 j hj, AgM_30 h.2.2.2.1, fun w g1 g2 j hj => by rw [su_ne (by omega)]; exact h.2.2.2.2 w g1 g2 j hj⟩
theorem fRM_psh {T n p p' : Nat} {r r' : jS} {v : Int32} (h : fRM T n p r r') (hp : p ≤ p') : fRM T n p r (psh r' p' v) :=
  fRM_30 (fRM_su (fRM_su (fRM_su (fRM_su (fRM_su h (by omega) (by omega) hp) (by omega) (by omega) hp) (by omega) (by omega) hp) (by omega) (by omega) hp) (by omega) (by omega) hp) (by omega)
theorem fRM_mono {T n p p' : Nat} {r r' : jS} (hp : p ≤ p') (h : fRM T n p' r r') : fRM T n p r r' := fRM.rf.tr (Nat.le_refl T) (Nat.le_refl n) hp h
/-- what a reading leaves -/
def RS (M T n p : Nat) (c r : jS) (v : Int32) (c' r' : jS) : Prop := ∃ T' n', T ≤ T' ∧ n ≤ n' ∧ Ty c' r' T' ∧ Tm c' r' T' n' ∧ fRX T n c c' ∧ fRM T n p r r' ∧
  ((∃ P' t, t < n' ∧ v = nI t ∧ Tk M c' r' P' ∧ r' 30 14 = nI p ∧ r' 30 22 = nI t) ∨ Fl r' v)
theorem RS_seq {M T T1 n n1 p : Nat} {c c1 c' r r1 r' : jS} {v : Int32} (hT : T ≤ T1) (hn : n ≤ n1) (fx : fRX T n c c1) (fm : fRM T n p r r1) (h : RS M T1 n1 p c1 r1 v c' r') : RS M T n p c r v c' r' := by
  obtain ⟨T', n', a1, a2, a3, a4, a5, a6, a7⟩ := h
  exact ⟨T', n', by omega, by omega, a3, a4, fx.tr hT hn a5, fm.tr hT hn (Nat.le_refl p) a6, a7⟩
/-- a reading that ends here, wrong -/
theorem RS_wrong {M T n p P : Nat} {c r r1 r' : jS} (hT : Ty c r T) (hM : Tm c r T n) (hK : Tk M c r P) (fm : fRM T n p r r1) (h0 : r1 30 0 = r 30 0) (h5 : r1 30 5 = r 30 5) (h31 : ∀ q, 31 ≤ q → q ≤ 33 → r1 q = r q) (h41 : r1 30 41 = r 30 41) (e : r' = su r1 30 42 1) : RS M T n p c r (-10 - nI P) c r' := by
  subst e
  refine ⟨T, n, Nat.le_refl T, Nat.le_refl n, Ty_r (fun _ _ _ => rfl) (by rw [su_row, upd_n (by omega)]; exact h0) (fun q h1 h2 => by rw [su_ne (by omega)]; exact h31 q h1 h2) hT, Tm_r (AgM_30 fm.2.2.2.1) (by rw [su_row, upd_n (by omega)]; exact h5) hM, fRX.rf, fRM_30 fm (by omega), Or.inr (Fl_tk hK ?_ ?_)⟩
  · rw [su_row, upd_n (by omega)]; exact h41
  · rw [su_row, upd_s]
theorem RS_wr {M T n p P : Nat} {c r : jS} (hT : Ty c r T) (hM : Tm c r T n) (hK : Tk M c r P) : RS M T n p c r (-10 - nI P) c (su r 30 42 1) :=
  RS_wrong hT hM hK fRM.rf rfl rfl (fun _ _ _ => rfl) rfl rfl
theorem made_ok {M T n p P : Nat} {c r c' r1 : jS} {v : Int32} {Q : Prop} (hT : Ty c r T) (hK : Tk M c r P) (h14 : r 30 14 = nI p) (hx : fX c c') (hm : fM r r1) (ax : AgX n c c') (am : AgM n r r1) (h : (v = -3 ∧ c' = c ∧ Tm c' r1 T n) ∨ (v = nI n ∧ n < 400 ∧ Tm c' r1 T (n + 1) ∧ Q)) :
    ∃ r', m_made r1 v = some ((), r') ∧ RS M T n p c r v c' r' := by
  unfold m_made
  rw [ltS]
  have hT1 : Ty c' r1 T := Ty_f hx hm hT
  rcases h with ⟨rfl, rfl, h⟩ | ⟨rfl, hn, h, -⟩
  · refine ⟨su (su r1 30 22 (-3)) 30 42 2, by rw [if_pos rfl, ltS], T, n, Nat.le_refl T, Nat.le_refl n, Ty_3 (by omega) (Ty_3 (by omega) hT1), Tm_r (AgM_30 (AgM_30 AgM.rf)) rfl h, fRX.rf, fRM_30 (fRM_30 (fRM_M hm am) (by omega)) (by omega), Or.inr (Or.inl ⟨rfl, by rw [su_row, upd_s]⟩)⟩
  · refine ⟨su (su r1 30 22 (nI n)) 30 42 ((su r1 30 22 (nI n)) 30 42), by rw [if_neg (nI_ne (by omega) (by decide)), ltS], T, n + 1, Nat.le_refl T, by omega, Ty_3 (by omega) (Ty_3 (by omega) hT1), Tm_r (AgM_30 (AgM_30 AgM.rf)) rfl h, fRX_X hx ax, fRM_30 (fRM_30 (fRM_M hm am) (by omega)) (by omega), Or.inl ⟨P, n, by omega, rfl, Tk_f hK (hx 28 (by omega)) (hx 29 (by omega)) ?_ ?_ ?_ ?_, ?_, ?_⟩⟩
    · rw [su_ne (by omega), su_ne (by omega), hm.1 59 (by omega) (by omega)]
    · rw [su_row, upd_n (by omega), su_row, upd_n (by omega), hm.2 40 (by omega)]
    · rw [su_row, upd_n (by omega), su_row, upd_n (by omega), hm.2 41 (by omega)]
    · rw [su_row, upd_s, su_row, upd_n (by omega), hm.2 42 (by omega)]
    · rw [su_row, upd_n (by omega), su_row, upd_n (by omega), hm.2 14 (by omega)]; exact h14
    · rw [su_row, upd_n (by omega), su_row, upd_s]
theorem rmk {M T n p P k : Nat} {c r : jS} {lx ty oa ob' od : Option Nat} (hT : Ty c r T) (hM : Tm c r T n) (hK : Tk M c r P) (h14 : r 30 14 = nI p) (hk : k ≠ 0) (hs : shp T n k lx ty oa ob' od) :
    ∃ v c' r1 r', xTerms_made c (nI k) (pv lx) (pv ty) (pv oa) (pv ob') (pv od) = some (v, c') ∧ m_make r (nI k) 0 (pv lx) (pv ty) (pv oa) (pv ob') (pv od) = some (v, r1) ∧ m_made r1 v = some ((), r') ∧ RS M T n p c r v c' r' := by
  obtain ⟨v, c', r1, e1, e2, hx, hm, ax, am, h⟩ := MK hT hM hk hs
  obtain ⟨r', e3, h3⟩ := made_ok hT hK h14 hx hm ax am h
  exact ⟨v, c', r1, r', e1, e2, e3, h3⟩
theorem rmk0 {M T n p P : Nat} {c r : jS} (hT : Ty c r T) (hM : Tm c r T n) (hK : Tk M c r P) (h14 : r 30 14 = nI p) (v2 : Int32) :
    ∃ v c' r1 r', xTerms_newNumber c v2 = some (v, c') ∧ m_make r 0 v2 (-2) (-2) (-2) (-2) (-2) = some (v, r1) ∧ m_made r1 v = some ((), r') ∧ RS M T n p c r v c' r' := by
  obtain ⟨v, c', r1, e1, e2, hx, hm, ax, am, h⟩ := MK0 hT hM v2
  obtain ⟨r', e3, h3⟩ := made_ok hT hK h14 hx hm ax am h
  exact ⟨v, c', r1, r', e1, e2, e3, h3⟩
/-- numbers -/
def sg (g : Bool) : Int32 := if g = true then -1 else 1
def mo (g : Bool) : Nat := if g = true then 2147483648 else 2147483647
def sv (g : Bool) (V : Nat) : Int64 := if g = true then - lN V else lN V
theorem mo_le (g : Bool) : mo g ≤ 2147483648 := by cases g <;> decide
theorem mo_9 (g : Bool) : 9 ≤ mo g := by cases g <;> decide
theorem neg_d : ∀ d, d < 10 → (-1 * nI d).toInt64 = - lN d := by decide +kernel
theorem sv_step (g : Bool) {V d : Nat} (hd : d ≤ 9) : sv g V * 10 + (sg g * (nI (48 + d) - 48)).toInt64 = sv g (V * 10 + d) := by
  have e : nI (48 + d) - 48 = nI d := by
    have := nI_subI (a := 48 + d) (b := 48) (by omega)
    rw [show 48 + d - 48 = d by omega] at this
    exact this
  rw [e]
  cases g with
  | false =>
    show lN V * lN 10 + (nI 1 * nI d).toInt64 = lN (V * 10 + d)
    rw [nI_mulI, Nat.one_mul, nI_l (by omega), lN_mul, lN_add]
  | true =>
    show - lN V * lN 10 + (-1 * nI d).toInt64 = - lN (V * 10 + d)
    rw [neg_d d (by omega), ← lN_add, ← lN_mul, Int64.neg_add, Int64.neg_mul]
    exact (Int64.sub_eq_add_neg _ _).symm
theorem sv_int (g : Bool) {W : Nat} (h : W < 2 ^ 40) : (sv g W).toInt = if g = true then -(W : Int) else W := by
  cases g with
  | false => exact pk_lT (by omega)
  | true =>
    show (- lN W).toInt = -(W : Int)
    rw [Int64.toInt_neg, pk_lT (by omega), Int.bmod_eq_of_le (by omega) (by omega)]
theorem sv_fit (g : Bool) {W : Nat} (h : W < 2 ^ 40) : lg_cmp (sv g W) (sv g W).toInt32.toInt64 = 0 ↔ W ≤ mo g := by
  rw [lg_cmp_eq]
  constructor
  · intro e
    have e2 : (sv g W).toInt = (sv g W).toInt32.toInt := by
      have := congrArg Int64.toInt e
      rw [Int32.toInt_toInt64] at this
      exact this
    have b1 := (sv g W).toInt32.toInt_lt
    have b2 := (sv g W).toInt32.le_toInt
    rw [← e2, sv_int g h] at b1 b2
    unfold mo
    cases g with
    | false => simp at b1 b2 ⊢; omega
    | true => simp at b1 b2 ⊢; omega
  · intro hW
    apply Int64.toInt_inj.mp
    rw [Int32.toInt_toInt64, Int64.toInt_toInt32, sv_int g h]
    unfold mo at hW
    cases g with
    | false => simp at hW ⊢; rw [Int.bmod_eq_of_le (by omega) (by omega)]
    | true => simp at hW ⊢; rw [Int.bmod_eq_of_le (by omega) (by omega)]
