theorem k22 : nI 2 = (2 : Int32) := rfl
theorem k44 : nI 4 = (4 : Int32) := rfl
theorem k11 : nI 1 = (1 : Int32) := rfl
theorem su_self {c : jS} {p k : Nat} {v : Int32} (h : c p k = v) : su c p k v = c := by
  funext q
  unfold su
  by_cases hq : q = p
  · subst hq
    rw [if_pos rfl]
    funext j
    by_cases hj : j = k
    · subst hj; rw [upd_s, h]
    · rw [upd_n hj]
  · rw [if_neg hq]
theorem bd_eta {x : Option (Unit × jS)} : bd x (fun _ c => some ((), c)) = x := by
  match x with
  | some (a, c) => rfl
  | none => rfl
/-- the body of a function or a let: its place among the parts -/
def bdy (k : Nat) : Nat := if k = 4 then 1 else 0
theorem pb_head {c r : jS} {T n p t k x u b st : Nat} (hM : Tm c r T n) (ht : t < n) (hp : p < 90) (hk7 : k < 7) (h6 : c 6 t = nI k) (e7 : r 48 p = nI x) (e8 : r 49 p = nI u) (hb : r 39 (3 * t + bdy k) = nI b) :
    m_putBody r (nI p) (nI t) (nI st) = m_putBody_P45 (nI p) (nI t) (nI st) (nI x) (nI u) (if k = 4 then 1 else 0) (nI t) (nI (bdy k)) r ∧ m_part r (nI t) (nI (bdy k)) = some (nI b) := by
  have h4 := hM.2.2.1
  have r35 := (hM.2.2.2 t ht).1.1.1
  have g : ∀ {α : Type} {x : Option α}, gd (ix (nI p) 90) x = x := fun {α x} => gd_t (ix_nI (by omega) (by decide))
  have gt : ∀ {α : Type} {x : Option α}, gd (ix (nI t) 400) x = x := fun {α x} => gd_t (ix_nI (by omega) (by decide))
  have hk4 : (nI k = (4 : Int32)) ↔ k = 4 := nI_eq (b := 4) (by omega) (by decide)
  constructor
  · unfold m_putBody m_putBody_P31 bdy
    simp only [g, gt, nI_clamp (show p < 2 ^ 31 by omega), nI_clamp (show t < 2 ^ 31 by omega)]
    rw [r35, h6, e7, e8]
    by_cases k4 : k = 4
    · rw [if_pos (hk4.mpr k4), if_neg n10, if_pos k4, if_pos k4]
      rfl
    · rw [if_neg (fun e => k4 (hk4.mp e)), if_pos trivial, if_neg k4, if_neg k4]
      rfl
  · rw [m_part_t hM ht (by unfold bdy; by_cases k4 : k = 4 <;> simp [k4]), hb]
theorem pb0 {c r : jS} {T n p t k x u b y : Nat} (hM : Tm c r T n) (ht : t < n) (hp : p < 90) (hk7 : k < 7) (h6 : c 6 t = nI k) (h8 : c 8 t = nI y) (hy : y < 26) (hx : x < 26) (hbn : b < n) (e7 : r 48 p = nI x) (e8 : r 49 p = nI u) (hb : r 39 (3 * t + bdy k) = nI b) :
    m_putBody r (nI p) (nI t) 0 = if k = 4 ∧ (y = x ∨ ¬ 0 < frN r b x) then some ((), su (su (su r 46 p (nI y)) 44 p 13) 30 22 (nI b)) else m_putBody_P110 (nI p) (nI x) (nI u) (nI b) (nI y) (su r 46 p (nI y)) := by
  have h4 := hM.2.2.1
  obtain ⟨q1, q2⟩ := pb_head (st := 0) hM ht hp hk7 h6 e7 e8 hb
  have r37 : r 37 t = nI y := (hM.2.2.2 t ht).1.1.2.2.1.trans h8
  have g : ∀ {α : Type} {x : Option α}, gd (ix (nI p) 90) x = x := fun {α x} => gd_t (ix_nI (by omega) (by decide))
  have gt : ∀ {α : Type} {x : Option α}, gd (ix (nI t) 400) x = x := fun {α x} => gd_t (ix_nI (by omega) (by decide))
  have hM2 : Tm c (su r 46 p (nI y)) T n := Tm_r (AgM_su AgM.rf (by omega)) rfl hM
  rw [show (0 : Int32) = nI 0 from rfl, q1]
  unfold m_putBody_P45 m_putBody_P93
  rw [q2, ob_s, gt, if_pos (show nI 0 = (0 : Int32) from rfl)]
  simp only [g, ltS, nI_clamp (show p < 2 ^ 31 by omega), nI_clamp (show t < 2 ^ 31 by omega)]
  rw [r37]
  by_cases k4 : k = 4
  · rw [if_pos k4, if_neg n10]
    by_cases hyx : y = x
    · subst hyx
      rw [if_pos rfl, if_pos ⟨k4, Or.inl rfl⟩]
    · rw [if_neg (fun e => hyx ((nI_eq (by omega) (by omega)).mp e)), m_isFr hM2 hbn hx, ob_s, show frN (su r 46 p (nI y)) b x = frN r b x from rfl]
      by_cases hf : 0 < frN r b x
      · rw [if_pos hf, if_neg n10, if_neg (fun q => q.2.elim hyx (fun q => q hf))]
      · rw [if_neg hf, if_pos rfl, if_pos ⟨k4, Or.inr hf⟩]
  · rw [if_neg k4, if_pos rfl, if_neg (fun q => k4 q.1)]
theorem pb2 {c r : jS} {T n p t k x u b : Nat} (hM : Tm c r T n) (ht : t < n) (hp : p + 1 < 90) (hk7 : k < 7) (h6 : c 6 t = nI k) (e1 : r 30 14 = nI (p + 1)) (e7 : r 48 p = nI x) (e8 : r 49 p = nI u) (hb : r 39 (3 * t + bdy k) = nI b) :
    m_putBody r (nI p) (nI t) (nI 2) = some ((), pshP (su r 44 p 13) (p + 1) (r 30 22) (nI x) (nI u)) := by
  have h4 := hM.2.2.1
  obtain ⟨q1, q2⟩ := pb_head (st := 2) hM ht (by omega) hk7 h6 e7 e8 hb
  rw [q1]
  unfold m_putBody_P45
  rw [q2, ob_s, gd_t (ix_nI (by omega) (by decide)), if_neg (show ¬ nI 2 = (0 : Int32) by decide), if_pos (show nI 2 = (2 : Int32) from rfl), gd_t (ix_nI (by omega) (by decide)), ltS, nI_clamp (by omega), m_pushPut_t (p := p + 1) (show (su r 44 p 13) 30 14 = nI (p + 1) from e1) hp, bd_s]
  rfl
theorem pb3 {c r : jS} {T n p t k x u b : Nat} {B : Int32} (hM : Tm c r T n) (ht : t < n) (hp : p < 90) (hk7 : k < 7) (h6 : c 6 t = nI k) (e1 : r 30 14 = nI (p + 1)) (e5 : r 46 p = B) (e7 : r 48 p = nI x) (e8 : r 49 p = nI u) (hb : r 39 (3 * t + bdy k) = nI b)
    {v : Int32} {r3 : jS} (fm : fM r r3) (hr : (if k = 4 then m_remade r (nI t) B (r 45 p) (r 30 22) (-2) else m_remade r (nI t) B (r 30 22) (-2) (-2)) = some (v, r3)) :
    m_putBody r (nI p) (nI t) (nI 3) = some ((), su (su r3 30 22 v) 30 14 (nI p)) := by
  have h4 := hM.2.2.1
  obtain ⟨q1, q2⟩ := pb_head (st := 3) hM ht hp hk7 h6 e7 e8 hb
  have g : ∀ {α : Type} {x : Option α}, gd (ix (nI p) 90) x = x := fun {α x} => gd_t (ix_nI (by omega) (by decide))
  rw [q1]
  unfold m_putBody_P45
  have e14 : (su r3 30 22 v) 30 14 = nI (p + 1) := by rw [su_row, upd_n (by omega), fm.2 14 (by omega)]; exact e1
  rw [q2, ob_s, gd_t (ix_nI (by omega) (by decide)), if_neg (show ¬ nI 3 = (0 : Int32) by decide), if_neg (show ¬ nI 3 = (2 : Int32) by decide)]
  simp only [g, ltS, nI_clamp (show p < 2 ^ 31 by omega)]
  rw [e5]
  by_cases k4 : k = 4
  · rw [if_pos k4] at hr
    rw [if_pos k4, if_neg n10, hr, bd_s, e14, nI_pred]
  · rw [if_neg k4] at hr
    rw [if_neg k4, if_pos rfl, hr, bd_s, e14, nI_pred]
/-- turns of a function or a let -/
theorem bt_late {c r : jS} {T n p t k x s : Nat} {A B C U : Int32} (hM : Tm c r T n) (ht : t < n) (h : EnP r p t s A B C (nI x) U) (hp : p < 90) (hs : s = 12 ∨ s = 13) (hx : x < 26) (hk : k = 2 ∨ k = 4) (h6 : c 6 t = nI k) : m_putTurn r = m_putBody (su r 44 p (nI (s + 1))) (nI p) (nI t) (nI (s - 10)) := by
  rw [pt_eq hM ht h hp (by omega) hx h6, if_neg (by omega)]
  unfold m_putTurn_P75 m_putTurn_P168 m_putTurn_P197
  have g : ∀ {α : Type} {x : Option α}, gd (ix (nI p) 90) x = x := fun {α x} => gd_t (ix_nI (by omega) (by decide))
  have n9 : ¬ nI s ≤ (9 : Int32) := nI_ge (a := 9) (by omega) (by omega)
  have e10 : nI s - 10 = nI (s - 10) := nI_subI (b := 10) (by omega)
  have n1 : ¬ nI s = (1 : Int32) := fun e => by have := (nI_eq (b := 1) (by omega) (by decide)).mp e; omega
  have n0 : ¬ nI s = (0 : Int32) := fun e => by have := (nI_eq (b := 0) (by omega) (by decide)).mp e; omega
  simp only [g, ltS, bd_eta, nI_clamp (show p < 2 ^ 31 by omega)]
  rw [su_self (c := su r 44 p (nI (s + 1))) (p := 45) (k := p) rfl, e10]
  rcases hk with rfl | rfl
  · rw [if_neg (by decide), if_pos k22, if_neg n9]
  · rw [if_neg (by decide), if_neg (by decide), if_pos k44, if_neg n0, if_pos k44, if_neg n1, if_neg n9]
theorem bt_fun {c r : jS} {T n p t x : Nat} {A B C U : Int32} (hM : Tm c r T n) (ht : t < n) (h : EnP r p t 0 A B C (nI x) U) (hp : p < 90) (hx : x < 26) (h6 : c 6 t = nI 2) (hf : 0 < frN r t x) : m_putTurn r = m_putBody (su r 44 p 1) (nI p) (nI t) 0 := by
  rw [pt_eq hM ht h hp (by omega) hx h6, if_pos rfl, if_pos hf]
  unfold m_putTurn_P75
  rw [if_neg (by decide), if_pos k22, if_pos (by decide), bd_eta]
  rfl
theorem bt_let1 {c r : jS} {T n p t x : Nat} {A B C U : Int32} (hM : Tm c r T n) (ht : t < n) (h : EnP r p t 1 A B C (nI x) U) (hp : p < 90) (hx : x < 26) (h6 : c 6 t = nI 4) : m_putTurn r = m_putBody (su (su r 44 p 2) 45 p (r 30 22)) (nI p) (nI t) 0 := by
  rw [pt_eq hM ht h hp (by omega) hx h6, if_neg (by omega)]
  unfold m_putTurn_P75 m_putTurn_P168 m_putTurn_P197
  have g : ∀ {α : Type} {x : Option α}, gd (ix (nI p) 90) x = x := fun {α x} => gd_t (ix_nI (by omega) (by decide))
  simp only [g, ltS, bd_eta, nI_clamp (show p < 2 ^ 31 by omega)]
  rw [if_neg (by decide), if_neg (by decide), if_pos k44, if_neg (by decide), if_pos k44, if_pos k11, if_pos (by decide)]
  rfl
theorem bt_let0 {c r : jS} {T n p t x u a : Nat} {A B C : Int32} (hM : Tm c r T n) (ht : t < n) (h : EnP r p t 0 A B C (nI x) (nI u)) (hp : p + 1 < 90) (hx : x < 26) (h6 : c 6 t = nI 4) (hf : 0 < frN r t x) (ha : r 39 (3 * t) = nI a) : m_putTurn r = some ((), pshP (su r 44 p 1) (p + 1) (nI a) (nI x) (nI u)) := by
  have hM1 : Tm c (su r 44 p 1) T n := Tm_r (AgM_su AgM.rf (by omega)) rfl hM
  rw [pt_eq hM ht h (by omega) (by omega) hx h6, if_pos rfl, if_pos hf]
  unfold m_putTurn_P75
  have g : ∀ {α : Type} {x : Option α}, gd (ix (nI p) 90) x = x := fun {α x} => gd_t (ix_nI (by omega) (by decide))
  simp only [g, bd_eta, nI_clamp (show p < 2 ^ 31 by omega)]
  rw [if_neg (by decide), if_neg (by decide), if_pos k44, if_pos (by decide), show su r 44 p (nI (0 + 1)) = su r 44 p 1 from rfl, show m_part (su r 44 p 1) (nI t) 0 = some (nI a) from (m_part_t (k := 0) hM1 ht (by omega)).trans (congrArg some ha), ob_s, show (su r 44 p 1) 48 p = nI x from h.2.1, show (su r 44 p 1) 49 p = nI u from h.2.2, m_pushPut_t (p := p + 1) (show (su r 44 p 1) 30 14 = nI (p + 1) from h.1.1) hp]
