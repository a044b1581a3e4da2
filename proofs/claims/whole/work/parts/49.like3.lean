/-- the frame of a comparing walk on the pile from p on -/
def fA (p : Nat) (r r' : jS) : Prop := (∀ q, q ≠ 30 → q < 43 ∨ q = 50 ∨ 52 < q → r' q = r q) ∧ (∀ k, k ≠ 14 → k ≠ 28 → r' 30 k = r 30 k) ∧ ∀ q, 43 ≤ q → q ≤ 49 → ∀ i, i < p → r' q i = r q i
theorem fA.rf {p : Nat} {r : jS} : fA p r r := ⟨fun _ _ _ => rfl, fun _ _ _ => rfl, fun _ _ _ _ _ => rfl⟩
theorem fA.tr {p p' : Nat} {a b c : jS} (hp : p ≤ p') (h : fA p a b) (h' : fA p' b c) : fA p a c :=
  ⟨fun q h1 h2 => (h'.1 q h1 h2).trans (h.1 q h1 h2), fun k h1 h2 => (h'.2.1 k h1 h2).trans (h.2.1 k h1 h2), fun q h1 h2 i hi => (h'.2.2 q h1 h2 i (by omega)).trans (h.2.2 q h1 h2 i hi)⟩
theorem fA_su {p q i : Nat} {r r' : jS} {v : Int32} (h : fA p r r') (h1 : 43 ≤ q) (h2 : q ≤ 49) (hi : p ≤ i) : fA p r (su r' q i v) := by
  refine ⟨fun w g1 g2 => by rw [su_ne (by omega)]; exact h.1 w g1 g2, fun k g1 g2 => by rw [su_ne (by omega)]; exact h.2.1 k g1 g2, fun w g1 g2 j hj => ?_⟩
  by_cases hw : w = q
  · subst hw; rw [su_row, upd_n (by omega)]; exact h.2.2 w g1 g2 j hj
  · rw [su_ne hw]; exact h.2.2 w g1 g2 j hj
theorem fA_e {p q i : Nat} {r r' : jS} {v : Int32} (h : fA p r r') (h1 : q = 51 ∨ q = 52) : fA p r (su r' q i v) :=
  ⟨fun w g1 g2 => by rw [su_ne (by omega)]; exact h.1 w g1 g2, fun k g1 g2 => by rw [su_ne (by omega)]; exact h.2.1 k g1 g2, fun w g1 g2 j hj => by rw [su_ne (by omega)]; exact h.2.2 w g1 g2 j hj⟩
theorem fA_30 {p k : Nat} {r r' : jS} {v : Int32} (h : fA p r r') (hk : k = 14 ∨ k = 28) : fA p r (su r' 30 k v) :=
  ⟨fun w g1 g2 => by rw [su_ne g1]; exact h.1 w g1 g2, fun j g1 g2 => by rw [su_row, upd_n (by omega)]; exact h.2.1 j g1 g2, fun w g1 g2 j hj => by rw [su_ne (by omega)]; exact h.2.2 w g1 g2 j hj⟩
theorem fA_psh {p p' : Nat} {r r' : jS} {v : Int32} (h : fA p r r') (hp : p ≤ p') : fA p r (psh r' p' v) :=
  fA_30 (fA_su (fA_su (fA_su (fA_su (fA_su h (by omega) (by omega) hp) (by omega) (by omega) hp) (by omega) (by omega) hp) (by omega) (by omega) hp) (by omega) (by omega) hp) (by omega)
theorem AgM_A {n p : Nat} {r r' : jS} (h : fA p r r') : AgM n r r' := ⟨fun q h1 h2 h3 t _ => by rw [h.1 q (by omega) (by omega)], fun j _ => by rw [h.1 39 (by omega) (by omega)], fun j _ => by rw [h.1 42 (by omega) (by omega)]⟩
theorem Tm_A {p : Nat} {c r r' : jS} {T n : Nat} (h : fA p r r') (hM : Tm c r T n) : Tm c r' T n := Tm_r (AgM_A h) (h.2.1 5 (by omega) (by omega)) hM
def pshA (r : jS) (q : Nat) (v u : Int32) : jS := su (psh r q v) 49 q u
theorem fA_pshA {p q : Nat} {r r' : jS} {v u : Int32} (h : fA p r r') (hp : p ≤ q) : fA p r (pshA r' q v u) := fA_su (fA_psh h hp) (by omega) (by omega) hp
def EA (r : jS) (p t u k : Nat) : Prop := r 30 14 = nI (p + 1) ∧ r 43 p = nI t ∧ r 49 p = nI u ∧ r 44 p = nI k
theorem EA_psh {r : jS} {q a b : Nat} : EA (pshA r q (nI a) (nI b)) q a b 0 := by
  have e := En_psh (r := r) (p := q) (t := a)
  refine ⟨e.1, e.2.1, ?_, e.2.2.1⟩
  show su _ 49 q (nI b) 49 q = _
  rw [su_row, upd_s]
theorem L86_0 {r : jS} : m_areAlike_L86 0 r = some (0, r) := by
  unfold m_areAlike_L86
  refine lp_inr ?_
  show m_areAlike_S86 0 r = _
  unfold m_areAlike_S86
  by_cases h : r 30 14 ≤ 0
  · rw [if_pos h, gd_t (by decide)]
  · rw [if_neg h, if_pos rfl, gd_t (by decide)]
theorem L86_s {r r' : jS} {v : Int32} (h : m_areAlike_S86 1 r = some (Sum.inl (v, r'))) : m_areAlike_L86 1 r = m_areAlike_L86 v r' := by
  unfold m_areAlike_L86
  exact lp_inl h
/-- the look at the node itself -/
def lh (c : jS) (E E' : Nat → Int32) (t u : Nat) : Bool :=
  if c 6 t = c 6 u then
    (if c 6 t = 1 then decide (E (chN c t) = E' (chN c u)) && (decide (E (chN c t) ≠ -2) || decide (c 8 t = c 8 u))
    else if c 6 t = 0 then decide (c 7 t = c 7 u) else if c 6 t = 2 then decide (c 9 t = c 9 u) else true)
  else false
theorem like_here {c r : jS} {T n t u : Nat} (hM : Tm c r T n) (ht : t < n) (hu : u < n) : m_isLikeHere r (nI t) (nI u) = some (b2 (lh c (r 51) (r 52) t u)) := by
  have h4 := hM.2.2.1
  obtain ⟨⟨r35, r36, r37, r38, -⟩, -⟩ := (hM.2.2.2 t ht).1
  obtain ⟨⟨s35, s36, s37, s38, -⟩, -⟩ := (hM.2.2.2 u hu).1
  have i1 : ix (nI t) 400 = true := ix_nI (by omega) (by decide)
  have i2 : ix (nI u) 400 = true := ix_nI (by omega) (by decide)
  unfold m_isLikeHere
  rw [nI_clamp (show t < 2 ^ 31 by omega), nI_clamp (show u < 2 ^ 31 by omega)]
  simp only [gd_t i1, gd_t i2]
  rw [r35, s35, r36, s36, r37, s37, r38, s38]
  unfold lh
  by_cases h6 : c 6 t = c 6 u
  · rw [if_pos h6, if_pos h6]
    by_cases h1 : c 6 t = 1
    · rw [if_pos h1, if_pos h1]
      obtain ⟨-, k, lx, ty, oa, ob, od, hs, ⟨c6, c8, -⟩, -⟩ := hM.2.2.2 t ht
      obtain ⟨-, k', lx', ty', oa', ob', od', hs', ⟨c6', c8', -⟩, -⟩ := hM.2.2.2 u hu
      have hk := hs.1
      have hk' := hs'.1
      have e1 : k = 1 := by rw [c6] at h1; exact (nI_eq (b := 1) (by omega) (by decide)).mp h1
      have e2 : k' = 1 := by rw [h1, c6'] at h6; exact (nI_eq (b := 1) (by omega) (by decide)).mp h6.symm
      subst e1 e2
      obtain ⟨x, hx, rfl, rfl, rfl, rfl, rfl⟩ := shp_1 hs
      obtain ⟨y, hy, rfl, rfl, rfl, rfl, rfl⟩ := shp_1 hs'
      unfold chN
      rw [c8, c8', show (pv (some x)).toNatClampNeg = x from nI_clamp (by omega), show (pv (some y)).toNatClampNeg = y from nI_clamp (by omega), gd_t (show ix (pv (some x)) 26 = true from ix_nI hx (by decide)), gd_t (show ix (pv (some y)) 26 = true from ix_nI hy (by decide))]
      by_cases g1 : r 51 x = r 52 y
      · rw [if_pos g1, gd_t (show ix (pv (some x)) 26 = true from ix_nI hx (by decide)), decide_eq_true g1]
        by_cases g2 : r 51 x = -2
        · rw [if_pos g2, decide_eq_false (p := r 51 x ≠ -2) (fun q => q g2)]
          by_cases g3 : pv (some x) = pv (some y)
          · rw [if_pos g3, decide_eq_true g3]; rfl
          · rw [if_neg g3, decide_eq_false g3]; rfl
        · rw [if_neg g2, decide_eq_true (p := r 51 x ≠ -2) g2]; rfl
      · rw [if_neg g1, decide_eq_false g1]; rfl
    · rw [if_neg h1, if_neg h1]
      by_cases h0 : c 6 t = 0
      · rw [if_pos h0, if_pos h0]
        by_cases g : c 7 t = c 7 u
        · rw [if_pos g, decide_eq_true g]; rfl
        · rw [if_neg g, decide_eq_false g]; rfl
      · rw [if_neg h0, if_neg h0]
        by_cases h2 : c 6 t = 2
        · rw [if_pos h2, if_pos h2]
          by_cases g : c 9 t = c 9 u
          · rw [if_pos g, decide_eq_true g]; rfl
          · rw [if_neg g, decide_eq_false g]; rfl
        · rw [if_neg h2, if_neg h2]; rfl
  · rw [if_neg h6, if_neg h6]; rfl
theorem la_turn {c r : jS} {T n p t u k : Nat} (hM : Tm c r T n) (ht : t < n) (hu : u < n) (E : EA r p t u k) (hp : p < 90) (hk : k < 100) :
    m_areAlike_S86 1 r = m_areAlike_P164_86 (nI p) (nI k) (nI t) (nI u) (if k = 0 then b2 (lh c (r 51) (r 52) t u) else 1) (su r 44 p (nI (k + 1))) := by
  obtain ⟨e1, e2, e3, e4⟩ := E
  have i1 : ix (nI p) 90 = true := ix_nI hp (by decide)
  have hM1 : Tm c (su r 44 p (nI (k + 1))) T n := Tm_r (AgM_su AgM.rf (by omega)) rfl hM
  unfold m_areAlike_S86
  rw [e1, if_neg (nI_nle (by omega) (by omega)), if_neg n10, nI_pred]
  simp only [gd_t i1]
  rw [nI_clamp (show p < 2 ^ 31 by omega), e2, e3, e4, ltS, nI_1]
  by_cases h0 : k = 0
  · subst h0
    rw [if_neg (by decide), if_pos rfl, like_here hM1 ht hu, ob_s]
    show (if b2 (lh c (r 51) (r 52) t u) = 0 then _ else _) = _
    cases lh c (r 51) (r 52) t u with
    | false => rw [if_pos b2_f]; rfl
    | true => rw [if_neg (by decide)]; rfl
  · rw [if_pos (show (0 : Int32) < nI k from nI_lt (a := 0) (by omega) (by omega)), if_neg h0]
    rfl
theorem la_164 {r : jS} {t K : Nat} {v4 v5 v7 s0 : Int32} (ht : t < 400) (hK : r 35 t = nI K) (hK7 : K < 7) : m_areAlike_P164_86 v4 v5 (nI t) v7 s0 r = m_areAlike_P192_86 s0 v4 v5 (nI t) v7 (if K = 2 ∨ K = 4 then 1 else 0) r := by
  have i1 : ix (nI t) 400 = true := ix_nI (by omega) (by decide)
  unfold m_areAlike_P164_86 m_areAlike_P187_86
  rw [gd_t i1, gd_t i1, nI_clamp (by omega), hK]
  rcases (show K = 0 ∨ K = 1 ∨ K = 2 ∨ K = 3 ∨ K = 4 ∨ K = 5 ∨ K = 6 by omega) with rfl | rfl | rfl | rfl | rfl | rfl | rfl
  · rw [if_neg (by decide), if_neg (by decide), if_neg (by decide)]
  · rw [if_neg (by decide), if_neg (by decide), if_neg (by decide)]
  · rw [if_pos (by decide), if_pos (by decide)]
  · rw [if_neg (by decide), if_neg (by decide), if_neg (by decide)]
  · rw [if_neg (by decide), if_pos (by decide), if_pos (by decide)]
  · rw [if_neg (by decide), if_neg (by decide), if_neg (by decide)]
  · rw [if_neg (by decide), if_neg (by decide), if_neg (by decide)]
theorem la_377 {c r : jS} {T n t u p k a b : Nat} (hM : Tm c r T n) (ht : t < n) (hu : u < n) (hp : p + 1 < 90) (hk : k < 3) (h14 : r 30 14 = nI (p + 1)) (ha : r 39 (3 * t + k) = nI a) (hb : r 39 (3 * u + k) = nI b) :
    m_areAlike_P377_86 1 (nI k) (nI t) (nI u) r = some (Sum.inl (1, pshA r (p + 1) (nI a) (nI b))) := by
  unfold m_areAlike_P377_86
  have hM2 : Tm c (psh r (p + 1) (nI a)) T n := Tm_r (AgM_psh AgM.rf) (psh_5 (by omega)) hM
  have e : (psh r (p + 1) (nI a)) 30 14 = nI (p + 1 + 1) := En_psh (r := r) (p := p + 1) (t := a) |>.1
  rw [m_part_t hM ht hk, ob_s, ha, m_push_t h14 (by omega), bd_s, m_part_t hM2 hu hk, ob_s, show (psh r (p + 1) (nI a)) 39 (3 * u + k) = nI b from hb, e, nI_pred, gd_t (ix_nI (by omega) (by decide)), ltS, nI_clamp (by omega)]
  rfl
/-- bound on both sides -/
def bndA (r : jS) (p x y lev : Nat) : jS := su (su (su (su (su r 45 p (r 51 x)) 46 p (r 52 y)) 51 x (nI lev)) 52 y (nI lev)) 30 28 (nI (lev + 1))
theorem la_push {c r : jS} {T n t u p k K a b : Nat} (hM : Tm c r T n) (ht : t < n) (hu : u < n) (hp : p + 1 < 90) (hK7 : K < 7) (hK : c 6 t = nI K) (hk : k < kP K) (E : EA r p t u k) (hl : k = 0 → lh c (r 51) (r 52) t u = true) (ha : r 39 (3 * t + k) = nI a) (hb : r 39 (3 * u + k) = nI b) (hn : ¬ ((K = 2 ∨ K = 4) ∧ k + 1 = kP K)) :
    m_areAlike_L86 1 r = m_areAlike_L86 1 (pshA (su r 44 p (nI (k + 1))) (p + 1) (nI a) (nI b)) := by
  have h4 := hM.2.2.1
  have hk3 := kP_3 hK7
  have hM1 : Tm c (su r 44 p (nI (k + 1))) T n := Tm_r (AgM_su AgM.rf (by omega)) rfl hM
  have h35 : (su r 44 p (nI (k + 1))) 35 t = nI K := by rw [(hM1.2.2.2 t ht).1.1.1]; exact hK
  refine L86_s ?_
  have e1 : (if k = 0 then b2 (lh c (r 51) (r 52) t u) else 1) = (1 : Int32) := by
    by_cases h : k = 0
    · rw [if_pos h, hl h]; rfl
    · rw [if_neg h]
  rw [la_turn hM ht hu E (by omega) (by omega), e1, la_164 (by omega) h35 hK7]
  unfold m_areAlike_P192_86
  have P := la_377 hM1 ht hu hp (by omega : k < 3) (show (su r 44 p (nI (k + 1))) 30 14 = nI (p + 1) from E.1) (show (su r 44 p (nI (k + 1))) 39 (3 * t + k) = nI a from ha) (show (su r 44 p (nI (k + 1))) 39 (3 * u + k) = nI b from hb)
  rw [gd_t (ix_nI (by omega) (by decide)), nI_clamp (show t < 2 ^ 31 by omega), h35, pO hK7, ob_s, show (if K < 2 then 0 else if K = 2 then 1 else if K = 6 then 3 else 2) = kP K from rfl, if_neg (fun e => absurd ((nI_eq (by omega) (by omega)).mp e) (by omega)), if_neg n10]
  by_cases hb2 : K = 2 ∨ K = 4
  · rw [if_pos hb2, if_neg n10, show nI (kP K) - 1 = nI (kP K - 1) from nI_subI (b := 1) (by omega), if_neg (fun e => absurd ((nI_eq (by omega) (by omega)).mp e) (fun e' => hn ⟨hb2, by omega⟩)), P]
  · rw [if_neg hb2, if_pos rfl, P]
theorem la_bind {c r : jS} {T n t u p k K a b x y lev : Nat} (hM : Tm c r T n) (ht : t < n) (hu : u < n) (hp : p + 1 < 90) (hb2 : K = 2 ∨ K = 4) (hK : c 6 t = nI K) (hk : k + 1 = kP K) (E : EA r p t u k) (hl : k = 0 → lh c (r 51) (r 52) t u = true) (ha : r 39 (3 * t + k) = nI a) (hb : r 39 (3 * u + k) = nI b) (hx : x < 26) (hy : y < 26) (c8 : c 8 t = nI x) (c8' : c 8 u = nI y) (hlev : r 30 28 = nI lev) :
    m_areAlike_L86 1 r = m_areAlike_L86 1 (pshA (bndA (su r 44 p (nI (k + 1))) p x y lev) (p + 1) (nI a) (nI b)) := by
  have h4 := hM.2.2.1
  have hK7 : K < 7 := by omega
  have hk3 := kP_3 hK7
  have hM1 : Tm c (su r 44 p (nI (k + 1))) T n := Tm_r (AgM_su AgM.rf (by omega)) rfl hM
  have h35 : (su r 44 p (nI (k + 1))) 35 t = nI K := by rw [(hM1.2.2.2 t ht).1.1.1]; exact hK
  refine L86_s ?_
  have e1 : (if k = 0 then b2 (lh c (r 51) (r 52) t u) else 1) = (1 : Int32) := by
    by_cases h : k = 0
    · rw [if_pos h, hl h]; rfl
    · rw [if_neg h]
  rw [la_turn hM ht hu E (by omega) (by omega), e1, la_164 (by omega) h35 hK7]
  generalize hR : su r 44 p (nI (k + 1)) = R at *
  have e37 : R 37 t = nI x := by rw [(hM1.2.2.2 t ht).1.1.2.2.1]; exact c8
  have f37 : R 37 u = nI y := by rw [(hM1.2.2.2 u hu).1.1.2.2.1]; exact c8'
  have g28 : R 30 28 = nI lev := by rw [← hR]; exact hlev
  have i1 : ix (nI t) 400 = true := ix_nI (by omega) (by decide)
  have i2 : ix (nI u) 400 = true := ix_nI (by omega) (by decide)
  have i3 : ix (nI p) 90 = true := ix_nI (by omega) (by decide)
  have i4 : ix (nI x) 26 = true := ix_nI (by omega) (by decide)
  have i5 : ix (nI y) 26 = true := ix_nI (by omega) (by decide)
  have k1 : (nI t).toNatClampNeg = t := nI_clamp (by omega)
  have k2 : (nI u).toNatClampNeg = u := nI_clamp (by omega)
  have k3 : (nI p).toNatClampNeg = p := nI_clamp (by omega)
  have k4 : (nI x).toNatClampNeg = x := nI_clamp (by omega)
  have k5 : (nI y).toNatClampNeg = y := nI_clamp (by omega)
  have hM2 : Tm c (bndA R p x y lev) T n := Tm_r (AgM_30 (AgM_su (AgM_su (AgM_su (AgM_su AgM.rf (by omega)) (by omega)) (by omega)) (by omega))) (show upd (R 30) 28 (nI (lev + 1)) 5 = R 30 5 from upd_n (by omega)) hM1
  have P := la_377 hM2 ht hu hp (by omega : k < 3) (show upd (R 30) 28 (nI (lev + 1)) 14 = nI (p + 1) from (by rw [upd_n (by omega), ← hR]; exact E.1)) (show R 39 (3 * t + k) = nI a from (by rw [← hR]; exact ha)) (show R 39 (3 * u + k) = nI b from (by rw [← hR]; exact hb))
  unfold m_areAlike_P192_86
  rw [gd_t i1, k1, h35, pO hK7, ob_s, show (if K < 2 then 0 else if K = 2 then 1 else if K = 6 then 3 else 2) = kP K from rfl, if_neg (fun e => absurd ((nI_eq (by omega) (by omega)).mp e) (by omega)), if_neg n10, if_pos hb2, if_neg n10, show nI (kP K) - 1 = nI (kP K - 1) from nI_subI (b := 1) (by omega), if_pos (show nI k = nI (kP K - 1) from (by rw [← hk]; rfl)), gd_t i1, e37, gd_t i4, k4, gd_t i3, k3, ltS, gd_t i2, k2]
  rw [show (su R 45 p (R 51 x)) 37 u = nI y from f37, gd_t i5, k5, gd_t i3, ltS, gd_t i1]
  rw [show (su (su R 45 p (R 51 x)) 46 p ((su R 45 p (R 51 x)) 52 y)) 37 t = nI x from e37, gd_t i4, k4, ltS, gd_t i2]
  rw [show (su (su (su R 45 p (R 51 x)) 46 p ((su R 45 p (R 51 x)) 52 y)) 51 x ((su (su R 45 p (R 51 x)) 46 p ((su R 45 p (R 51 x)) 52 y)) 30 28)) 37 u = nI y from f37, gd_t i5, k5, ltS, ltS]
  have eq : (su (su (su (su (su R 45 p (R 51 x)) 46 p ((su R 45 p (R 51 x)) 52 y)) 51 x ((su (su R 45 p (R 51 x)) 46 p ((su R 45 p (R 51 x)) 52 y)) 30 28)) 52 y ((su (su (su R 45 p (R 51 x)) 46 p ((su R 45 p (R 51 x)) 52 y)) 51 x ((su (su R 45 p (R 51 x)) 46 p ((su R 45 p (R 51 x)) 52 y)) 30 28)) 30 28)) 30 28 ((su (su (su (su R 45 p (R 51 x)) 46 p ((su R 45 p (R 51 x)) 52 y)) 51 x ((su (su R 45 p (R 51 x)) 46 p ((su R 45 p (R 51 x)) 52 y)) 30 28)) 52 y ((su (su (su R 45 p (R 51 x)) 46 p ((su R 45 p (R 51 x)) 52 y)) 51 x ((su (su R 45 p (R 51 x)) 46 p ((su R 45 p (R 51 x)) 52 y)) 30 28)) 30 28)) 30 28 + 1)) = bndA R p x y lev := by
    unfold bndA
    show su (su (su (su (su R 45 p (R 51 x)) 46 p (R 52 y)) 51 x (R 30 28)) 52 y (R 30 28)) 30 28 (R 30 28 + 1) = _
    rw [g28, nI_1]
  rw [eq]
  exact P
