def b2 (b : Bool) : Int32 := if b = true then 1 else 0
theorem b2_t : b2 true = 1 := rfl
theorem b2_f : b2 false = 0 := rfl
theorem bz_b2 (b : Bool) : bz (b2 b) = true := by cases b <;> decide
theorem shp_0 {T t : Nat} {lx ty oa ob od : Option Nat} (h : shp T t 0 lx ty oa ob od) : lx = none ∧ ty = none ∧ oa = none ∧ ob = none ∧ od = none := by
  rcases shp_cases h with ⟨-, h⟩ | ⟨q, -⟩ | ⟨q, -⟩ | ⟨q, -⟩ | ⟨q, -⟩ | ⟨q, -⟩ | ⟨q, -⟩
  · exact h
  all_goals omega
theorem shp_1 {T t : Nat} {lx ty oa ob od : Option Nat} (h : shp T t 1 lx ty oa ob od) : ∃ x, x < 26 ∧ lx = some x ∧ ty = none ∧ oa = none ∧ ob = none ∧ od = none := by
  rcases shp_cases h with ⟨q, -⟩ | ⟨-, h⟩ | ⟨q, -⟩ | ⟨q, -⟩ | ⟨q, -⟩ | ⟨q, -⟩ | ⟨q, -⟩
  · omega
  · exact h
  all_goals omega
theorem shp_2 {T t : Nat} {lx ty oa ob od : Option Nat} (h : shp T t 2 lx ty oa ob od) : ∃ x y a, x < 26 ∧ y < T ∧ a < t ∧ lx = some x ∧ ty = some y ∧ oa = some a ∧ ob = none ∧ od = none := by
  rcases shp_cases h with ⟨q, -⟩ | ⟨q, -⟩ | ⟨-, h⟩ | ⟨q, -⟩ | ⟨q, -⟩ | ⟨q, -⟩ | ⟨q, -⟩
  · omega
  · omega
  · exact h
  all_goals omega
theorem shp_35 {T t k : Nat} {lx ty oa ob od : Option Nat} (hk : k = 3 ∨ k = 5) (h : shp T t k lx ty oa ob od) : ∃ a b, a < t ∧ b < t ∧ lx = none ∧ ty = none ∧ oa = some a ∧ ob = some b ∧ od = none := by
  rcases shp_cases h with ⟨q, -⟩ | ⟨q, -⟩ | ⟨q, -⟩ | ⟨-, h⟩ | ⟨q, -⟩ | ⟨-, h⟩ | ⟨q, -⟩
  · omega
  · omega
  · omega
  · exact h
  · omega
  · exact h
  · omega
theorem shp_4 {T t : Nat} {lx ty oa ob od : Option Nat} (h : shp T t 4 lx ty oa ob od) : ∃ x a b, x < 26 ∧ a < t ∧ b < t ∧ lx = some x ∧ ty = none ∧ oa = some a ∧ ob = some b ∧ od = none := by
  rcases shp_cases h with ⟨q, -⟩ | ⟨q, -⟩ | ⟨q, -⟩ | ⟨q, -⟩ | ⟨-, h⟩ | ⟨q, -⟩ | ⟨q, -⟩
  · omega
  · omega
  · omega
  · omega
  · exact h
  · omega
  · omega
theorem shp_6 {T t : Nat} {lx ty oa ob od : Option Nat} (h : shp T t 6 lx ty oa ob od) : ∃ a b d, a < t ∧ b < t ∧ d < t ∧ lx = none ∧ ty = none ∧ oa = some a ∧ ob = some b ∧ od = some d := by
  rcases shp_cases h with ⟨q, -⟩ | ⟨q, -⟩ | ⟨q, -⟩ | ⟨q, -⟩ | ⟨q, -⟩ | ⟨q, -⟩ | ⟨-, h⟩
  · omega
  · omega
  · omega
  · omega
  · omega
  · omega
  · exact h
def chN (c : jS) (t : Nat) : Nat := (c 8 t).toNatClampNeg
def paN (c : jS) (t : Nat) : Nat := (c 10 t).toNatClampNeg
def pbN (c : jS) (t : Nat) : Nat := (c 11 t).toNatClampNeg
def pcN (c : jS) (t : Nat) : Nat := (c 12 t).toNatClampNeg
/-- alike but for the bound names -/
def lk (c : jS) : Nat → (Nat → Int32) → (Nat → Int32) → Nat → Nat → Nat → Bool
  | 0, _, _, _, _, _ => false
  | d + 1, E, E', lev, t, u =>
    if c 6 t = c 6 u then
      (if c 6 t = 0 then decide (c 7 t = c 7 u)
      else if c 6 t = 1 then decide (E (chN c t) = E' (chN c u)) && (decide (E (chN c t) ≠ -2) || decide (c 8 t = c 8 u))
      else if c 6 t = 2 then decide (c 9 t = c 9 u) && lk c d (upd E (chN c t) (nI lev)) (upd E' (chN c u) (nI lev)) (lev + 1) (paN c t) (paN c u)
      else if c 6 t = 4 then lk c d E E' lev (paN c t) (paN c u) && lk c d (upd E (chN c t) (nI lev)) (upd E' (chN c u) (nI lev)) (lev + 1) (pbN c t) (pbN c u)
      else lk c d E E' lev (paN c t) (paN c u) && (lk c d E E' lev (pbN c t) (pbN c u) && (decide (c 6 t ≠ 6) || lk c d E E' lev (pcN c t) (pcN c u))))
    else false
theorem lk_ne {c : jS} {d lev t u : Nat} {E E' : Nat → Int32} (h : c 6 t ≠ c 6 u) : lk c (d + 1) E E' lev t u = false := by
  unfold lk; rw [if_neg h]
theorem lk_k0 {c : jS} {d lev t u : Nat} {E E' : Nat → Int32} (h : c 6 t = nI 0) (h' : c 6 u = nI 0) : lk c (d + 1) E E' lev t u = decide (c 7 t = c 7 u) := by
  unfold lk; rw [h, h', if_pos rfl, if_pos (by decide)]
theorem lk_k1 {c : jS} {d lev t u x y : Nat} {E E' : Nat → Int32} (h : c 6 t = nI 1) (h' : c 6 u = nI 1) (hx : c 8 t = nI x) (hy : c 8 u = nI y) (x26 : x < 26) (y26 : y < 26) : lk c (d + 1) E E' lev t u = (decide (E x = E' y) && (decide (E x ≠ -2) || decide (nI x = nI y))) := by
  unfold lk chN; rw [h, h', hx, hy, if_pos rfl, if_neg (by decide), if_pos (by decide), nI_clamp (by omega), nI_clamp (by omega)]
theorem lk_k2 {c : jS} {d lev t u x y a b : Nat} {E E' : Nat → Int32} (h : c 6 t = nI 2) (h' : c 6 u = nI 2) (hx : c 8 t = nI x) (hy : c 8 u = nI y) (x26 : x < 26) (y26 : y < 26) (ha : c 10 t = nI a) (hb : c 10 u = nI b) (a4 : a < 400) (b4 : b < 400) : lk c (d + 1) E E' lev t u = (decide (c 9 t = c 9 u) && lk c d (upd E x (nI lev)) (upd E' y (nI lev)) (lev + 1) a b) := by
  rw [lk]
  unfold chN paN
  rw [h, h', hx, hy, ha, hb, if_pos rfl, if_neg (by decide), if_neg (by decide), if_pos (by decide), nI_clamp (show x < 2 ^ 31 by omega), nI_clamp (show y < 2 ^ 31 by omega), nI_clamp (show a < 2 ^ 31 by omega), nI_clamp (show b < 2 ^ 31 by omega)]
theorem lk_k4 {c : jS} {d lev t u x y a b a' b' : Nat} {E E' : Nat → Int32} (h : c 6 t = nI 4) (h' : c 6 u = nI 4) (hx : c 8 t = nI x) (hy : c 8 u = nI y) (x26 : x < 26) (y26 : y < 26) (ha : c 10 t = nI a) (ha' : c 10 u = nI a') (hb : c 11 t = nI b) (hb' : c 11 u = nI b') (a4 : a < 400) (a4' : a' < 400) (b4 : b < 400) (b4' : b' < 400) : lk c (d + 1) E E' lev t u = (lk c d E E' lev a a' && lk c d (upd E x (nI lev)) (upd E' y (nI lev)) (lev + 1) b b') := by
  rw [lk]
  unfold chN paN pbN
  rw [h, h', hx, hy, ha, ha', hb, hb', if_pos rfl, if_neg (by decide), if_neg (by decide), if_neg (by decide), if_pos (by decide), nI_clamp (show x < 2 ^ 31 by omega), nI_clamp (show y < 2 ^ 31 by omega), nI_clamp (show a < 2 ^ 31 by omega), nI_clamp (show b < 2 ^ 31 by omega), nI_clamp (show a' < 2 ^ 31 by omega), nI_clamp (show b' < 2 ^ 31 by omega)]
theorem lk_k35 {c : jS} {d lev t u k a b a' b' : Nat} {E E' : Nat → Int32} (hk : k = 3 ∨ k = 5) (h : c 6 t = nI k) (h' : c 6 u = nI k) (ha : c 10 t = nI a) (ha' : c 10 u = nI a') (hb : c 11 t = nI b) (hb' : c 11 u = nI b') (a4 : a < 400) (a4' : a' < 400) (b4 : b < 400) (b4' : b' < 400) : lk c (d + 1) E E' lev t u = (lk c d E E' lev a a' && (lk c d E E' lev b b' && true)) := by
  rw [lk]
  unfold paN pbN
  rw [h, h', ha, ha', hb, hb', if_pos rfl, nI_clamp (show a < 2 ^ 31 by omega), nI_clamp (show b < 2 ^ 31 by omega), nI_clamp (show a' < 2 ^ 31 by omega), nI_clamp (show b' < 2 ^ 31 by omega)]
  rcases hk with rfl | rfl
  · rw [if_neg (by decide), if_neg (by decide), if_neg (by decide), if_neg (by decide), show decide (nI 3 ≠ (6 : Int32)) = true from by decide, Bool.true_or]
  · rw [if_neg (by decide), if_neg (by decide), if_neg (by decide), if_neg (by decide), show decide (nI 5 ≠ (6 : Int32)) = true from by decide, Bool.true_or]
theorem lk_k6 {c : jS} {d lev t u a b a' b' e e' : Nat} {E E' : Nat → Int32} (h : c 6 t = nI 6) (h' : c 6 u = nI 6) (ha : c 10 t = nI a) (ha' : c 10 u = nI a') (hb : c 11 t = nI b) (hb' : c 11 u = nI b') (he : c 12 t = nI e) (he' : c 12 u = nI e') (a4 : a < 400) (a4' : a' < 400) (b4 : b < 400) (b4' : b' < 400) (e4 : e < 400) (e4' : e' < 400) : lk c (d + 1) E E' lev t u = (lk c d E E' lev a a' && (lk c d E E' lev b b' && lk c d E E' lev e e')) := by
  rw [lk]
  unfold paN pbN pcN
  rw [h, h', ha, ha', hb, hb', he, he', if_pos rfl, nI_clamp (show a < 2 ^ 31 by omega), nI_clamp (show b < 2 ^ 31 by omega), nI_clamp (show a' < 2 ^ 31 by omega), nI_clamp (show b' < 2 ^ 31 by omega), nI_clamp (show e < 2 ^ 31 by omega), nI_clamp (show e' < 2 ^ 31 by omega)]
  rw [if_neg (by decide), if_neg (by decide), if_neg (by decide), if_neg (by decide), show decide (nI 6 ≠ (6 : Int32)) = false from by decide, Bool.false_or]
/-- two nodes of one kind, side by side -/
theorem two_cases {c r : jS} {T n t u : Nat} (hM : Tm c r T n) (ht : t < n) (hu : u < n) (h6 : c 6 t = c 6 u) {P : Prop}
    (H0 : c 6 t = nI 0 → c 6 u = nI 0 → szN c t = 1 → dpN c t = 1 → szN c u = 1 → dpN c u = 1 → P)
    (H1 : ∀ x y, x < 26 → y < 26 → c 6 t = nI 1 → c 6 u = nI 1 → c 8 t = nI x → c 8 u = nI y → szN c t = 1 → dpN c t = 1 → szN c u = 1 → dpN c u = 1 → P)
    (H2 : ∀ x y a b, x < 26 → y < 26 → a < t → b < u → c 6 t = nI 2 → c 6 u = nI 2 → c 8 t = nI x → c 8 u = nI y → c 10 t = nI a → c 10 u = nI b → szN c t = 1 + szN c a → dpN c t = 1 + dpN c a → szN c u = 1 + szN c b → dpN c u = 1 + dpN c b → P)
    (H4 : ∀ x y a b a' b', x < 26 → y < 26 → a < t → b < t → a' < u → b' < u → c 6 t = nI 4 → c 6 u = nI 4 → c 8 t = nI x → c 8 u = nI y → c 10 t = nI a → c 11 t = nI b → c 10 u = nI a' → c 11 u = nI b' → szN c t = 1 + szN c a + szN c b → dpN c t = 1 + max (dpN c a) (dpN c b) → szN c u = 1 + szN c a' + szN c b' → dpN c u = 1 + max (dpN c a') (dpN c b') → P)
    (H35 : ∀ k a b a' b', k = 3 ∨ k = 5 → a < t → b < t → a' < u → b' < u → c 6 t = nI k → c 6 u = nI k → c 10 t = nI a → c 11 t = nI b → c 12 t = -2 → c 10 u = nI a' → c 11 u = nI b' → c 12 u = -2 → szN c t = 1 + szN c a + szN c b → dpN c t = 1 + max (dpN c a) (dpN c b) → szN c u = 1 + szN c a' + szN c b' → dpN c u = 1 + max (dpN c a') (dpN c b') → P)
    (H6 : ∀ a b e a' b' e', a < t → b < t → e < t → a' < u → b' < u → e' < u → c 6 t = nI 6 → c 6 u = nI 6 → c 10 t = nI a → c 11 t = nI b → c 12 t = nI e → c 10 u = nI a' → c 11 u = nI b' → c 12 u = nI e' → szN c t = 1 + szN c a + szN c b + szN c e → dpN c t = 1 + max (dpN c a) (max (dpN c b) (dpN c e)) → szN c u = 1 + szN c a' + szN c b' + szN c e' → dpN c u = 1 + max (dpN c a') (max (dpN c b') (dpN c e')) → P) : P := by
  obtain ⟨-, k, lx, ty, oa, ob, od, hs, ⟨c6, c8, c9, c10, c11, c12, -⟩, ⟨hsz, hdp⟩, -, -⟩ := hM.2.2.2 t ht
  obtain ⟨-, k', lx', ty', oa', ob', od', hs', ⟨c6', c8', c9', c10', c11', c12', -⟩, ⟨hsz', hdp'⟩, -, -⟩ := hM.2.2.2 u hu
  have hk := hs.1
  have hk' := hs'.1
  have he : k = k' := by rw [c6, c6'] at h6; exact (nI_eq (by omega) (by omega)).mp h6
  subst he
  rcases (show k = 0 ∨ k = 1 ∨ k = 2 ∨ k = 4 ∨ k = 3 ∨ k = 5 ∨ k = 6 by omega) with rfl | rfl | rfl | rfl | h35 | h35 | rfl
  · obtain ⟨rfl, rfl, rfl, rfl, rfl⟩ := shp_0 hs
    obtain ⟨rfl, rfl, rfl, rfl, rfl⟩ := shp_0 hs'
    simp [oz] at hsz hdp hsz' hdp'
    exact H0 c6 c6' hsz hdp hsz' hdp'
  · obtain ⟨x, hx, rfl, rfl, rfl, rfl, rfl⟩ := shp_1 hs
    obtain ⟨y, hy, rfl, rfl, rfl, rfl, rfl⟩ := shp_1 hs'
    simp [oz] at hsz hdp hsz' hdp'
    exact H1 x y hx hy c6 c6' c8 c8' hsz hdp hsz' hdp'
  · obtain ⟨x, w, a, hx, hw, ha, rfl, rfl, rfl, rfl, rfl⟩ := shp_2 hs
    obtain ⟨y, w', b, hy, hw', hb, rfl, rfl, rfl, rfl, rfl⟩ := shp_2 hs'
    simp [oz] at hsz hdp hsz' hdp'
    exact H2 x y a b hx hy ha hb c6 c6' c8 c8' c10 c10' hsz hdp hsz' hdp'
  · obtain ⟨x, a, b, hx, ha, hb, rfl, rfl, rfl, rfl, rfl⟩ := shp_4 hs
    obtain ⟨y, a', b', hy, ha', hb', rfl, rfl, rfl, rfl, rfl⟩ := shp_4 hs'
    simp [oz] at hsz hdp hsz' hdp'
    exact H4 x y a b a' b' hx hy ha hb ha' hb' c6 c6' c8 c8' c10 c11 c10' c11' hsz hdp hsz' hdp'
  · obtain ⟨a, b, ha, hb, rfl, rfl, rfl, rfl, rfl⟩ := shp_35 (Or.inl h35) hs
    obtain ⟨a', b', ha', hb', rfl, rfl, rfl, rfl, rfl⟩ := shp_35 (Or.inl h35) hs'
    simp [oz] at hsz hdp hsz' hdp'
    exact H35 k a b a' b' (Or.inl h35) ha hb ha' hb' c6 c6' c10 c11 c12 c10' c11' c12' hsz hdp hsz' hdp'
  · obtain ⟨a, b, ha, hb, rfl, rfl, rfl, rfl, rfl⟩ := shp_35 (Or.inr h35) hs
    obtain ⟨a', b', ha', hb', rfl, rfl, rfl, rfl, rfl⟩ := shp_35 (Or.inr h35) hs'
    simp [oz] at hsz hdp hsz' hdp'
    exact H35 k a b a' b' (Or.inr h35) ha hb ha' hb' c6 c6' c10 c11 c12 c10' c11' c12' hsz hdp hsz' hdp'
  · obtain ⟨a, b, e, ha, hb, he, rfl, rfl, rfl, rfl, rfl⟩ := shp_6 hs
    obtain ⟨a', b', e', ha', hb', he', rfl, rfl, rfl, rfl, rfl⟩ := shp_6 hs'
    simp [oz] at hsz hdp hsz' hdp'
    exact H6 a b e a' b' e' ha hb he ha' hb' he' c6 c6' c10 c11 c12 c10' c11' c12' hsz hdp hsz' hdp'
theorem lk_size {c r : jS} {T n : Nat} (hM : Tm c r T n) : ∀ (d : Nat) (E E' : Nat → Int32) (lev t u : Nat), t < n → u < n → lk c d E E' lev t u = true → szN c t = szN c u ∧ dpN c t = dpN c u
  | 0, E, E', lev, t, u, ht, hu, h => by cases h
  | d + 1, E, E', lev, t, u, ht, hu, h => by
    have h4 := hM.2.2.1
    by_cases h6 : c 6 t = c 6 u
    · refine two_cases hM ht hu h6 ?_ ?_ ?_ ?_ ?_ ?_
      · intros; omega
      · intros; omega
      · intro x y a b hx hy ha hb c6 c6' c8 c8' c10 c10' q1 q2 q3 q4
        rw [lk_k2 c6 c6' c8 c8' hx hy c10 c10' (by omega) (by omega), Bool.and_eq_true] at h
        have := lk_size hM d _ _ _ a b (by omega) (by omega) h.2
        omega
      · intro x y a b a' b' hx hy ha hb ha' hb' c6 c6' c8 c8' c10 c11 c10' c11' q1 q2 q3 q4
        rw [lk_k4 c6 c6' c8 c8' hx hy c10 c10' c11 c11' (by omega) (by omega) (by omega) (by omega), Bool.and_eq_true] at h
        have g1 := lk_size hM d _ _ _ a a' (by omega) (by omega) h.1
        have g2 := lk_size hM d _ _ _ b b' (by omega) (by omega) h.2
        omega
      · intro k a b a' b' hk ha hb ha' hb' c6 c6' c10 c11 c12 c10' c11' c12' q1 q2 q3 q4
        rw [lk_k35 hk c6 c6' c10 c10' c11 c11' (by omega) (by omega) (by omega) (by omega), Bool.and_eq_true, Bool.and_eq_true] at h
        have g1 := lk_size hM d _ _ _ a a' (by omega) (by omega) h.1
        have g2 := lk_size hM d _ _ _ b b' (by omega) (by omega) h.2.1
        omega
      · intro a b e a' b' e' ha hb he ha' hb' he' c6 c6' c10 c11 c12 c10' c11' c12' q1 q2 q3 q4
        rw [lk_k6 c6 c6' c10 c10' c11 c11' c12 c12' (by omega) (by omega) (by omega) (by omega) (by omega) (by omega), Bool.and_eq_true, Bool.and_eq_true] at h
        have g1 := lk_size hM d _ _ _ a a' (by omega) (by omega) h.1
        have g2 := lk_size hM d _ _ _ b b' (by omega) (by omega) h.2.1
        have g3 := lk_size hM d _ _ _ e e' (by omega) (by omega) h.2.2
        omega
    · rw [lk_ne h6] at h
      cases h
theorem lk_refl {c r : jS} {T n : Nat} (hM : Tm c r T n) : ∀ (d : Nat) (E : Nat → Int32) (lev t : Nat), t < n → dpN c t ≤ d → lk c d E E lev t t = true
  | 0, E, lev, t, ht, hd => absurd (dp_pos hM ht) (by omega)
  | d + 1, E, lev, t, ht, hd => by
    have h4 := hM.2.2.1
    refine two_cases hM ht ht rfl ?_ ?_ ?_ ?_ ?_ ?_
    · intro c6 c6' q1 q2 q3 q4
      rw [lk_k0 c6 c6', decide_eq_true rfl]
    · intro x y hx hy c6 c6' c8 c8' q1 q2 q3 q4
      have : x = y := (nI_eq (by omega) (by omega)).mp (c8.symm.trans c8')
      subst this
      rw [lk_k1 c6 c6' c8 c8' hx hy, decide_eq_true rfl, decide_eq_true (p := nI x = nI x) rfl, Bool.or_true]
      rfl
    · intro x y a b hx hy ha hb c6 c6' c8 c8' c10 c10' q1 q2 q3 q4
      have e1 : x = y := (nI_eq (by omega) (by omega)).mp (c8.symm.trans c8')
      have e2 : a = b := (nI_eq (by omega) (by omega)).mp (c10.symm.trans c10')
      subst e1 e2
      rw [lk_k2 c6 c6' c8 c8' hx hy c10 c10' (by omega) (by omega), decide_eq_true rfl, lk_refl hM d _ _ a (by omega) (by omega)]
      rfl
    · intro x y a b a' b' hx hy ha hb ha' hb' c6 c6' c8 c8' c10 c11 c10' c11' q1 q2 q3 q4
      have e1 : x = y := (nI_eq (by omega) (by omega)).mp (c8.symm.trans c8')
      have e2 : a = a' := (nI_eq (by omega) (by omega)).mp (c10.symm.trans c10')
      have e3 : b = b' := (nI_eq (by omega) (by omega)).mp (c11.symm.trans c11')
      subst e1 e2 e3
      rw [lk_k4 c6 c6' c8 c8' hx hy c10 c10' c11 c11' (by omega) (by omega) (by omega) (by omega), lk_refl hM d _ _ a (by omega) (by omega), lk_refl hM d _ _ b (by omega) (by omega)]
      rfl
    · intro k a b a' b' hk ha hb ha' hb' c6 c6' c10 c11 c12 c10' c11' c12' q1 q2 q3 q4
      have e2 : a = a' := (nI_eq (by omega) (by omega)).mp (c10.symm.trans c10')
      have e3 : b = b' := (nI_eq (by omega) (by omega)).mp (c11.symm.trans c11')
      subst e2 e3
      rw [lk_k35 hk c6 c6' c10 c10' c11 c11' (by omega) (by omega) (by omega) (by omega), lk_refl hM d _ _ a (by omega) (by omega), lk_refl hM d _ _ b (by omega) (by omega)]
      rfl
    · intro a b e a' b' e' ha hb he ha' hb' he' c6 c6' c10 c11 c12 c10' c11' c12' q1 q2 q3 q4
      have e2 : a = a' := (nI_eq (by omega) (by omega)).mp (c10.symm.trans c10')
      have e3 : b = b' := (nI_eq (by omega) (by omega)).mp (c11.symm.trans c11')
      have e4 : e = e' := (nI_eq (by omega) (by omega)).mp (c12.symm.trans c12')
      subst e2 e3 e4
      rw [lk_k6 c6 c6' c10 c10' c11 c11' c12 c12' (by omega) (by omega) (by omega) (by omega) (by omega) (by omega), lk_refl hM d _ _ a (by omega) (by omega), lk_refl hM d _ _ b (by omega) (by omega), lk_refl hM d _ _ e (by omega) (by omega)]
      rfl
theorem lk_congr {c r : jS} {T n : Nat} (hM : Tm c r T n) : ∀ (d : Nat) (E E' F F' : Nat → Int32) (lev t u : Nat), t < n → u < n → (∀ x, x < 26 → E x = F x ∧ E' x = F' x) → lk c d E E' lev t u = lk c d F F' lev t u
  | 0, E, E', F, F', lev, t, u, ht, hu, h => rfl
  | d + 1, E, E', F, F', lev, t, u, ht, hu, h => by
    have h4 := hM.2.2.1
    have up : ∀ x y, x < 26 → y < 26 → ∀ z, z < 26 → upd E x (nI lev) z = upd F x (nI lev) z ∧ upd E' y (nI lev) z = upd F' y (nI lev) z := by
      intro x y hx hy z hz
      unfold upd
      rw [(h z hz).1, (h z hz).2]
      exact ⟨rfl, rfl⟩
    by_cases h6 : c 6 t = c 6 u
    · refine two_cases hM ht hu h6 ?_ ?_ ?_ ?_ ?_ ?_
      · intro c6 c6' q1 q2 q3 q4
        rw [lk_k0 c6 c6', lk_k0 c6 c6']
      · intro x y hx hy c6 c6' c8 c8' q1 q2 q3 q4
        rw [lk_k1 c6 c6' c8 c8' hx hy, lk_k1 c6 c6' c8 c8' hx hy, (h x hx).1, (h y hy).2]
      · intro x y a b hx hy ha hb c6 c6' c8 c8' c10 c10' q1 q2 q3 q4
        rw [lk_k2 c6 c6' c8 c8' hx hy c10 c10' (by omega) (by omega), lk_k2 c6 c6' c8 c8' hx hy c10 c10' (by omega) (by omega), lk_congr hM d _ _ _ _ _ a b (by omega) (by omega) (up x y hx hy)]
      · intro x y a b a' b' hx hy ha hb ha' hb' c6 c6' c8 c8' c10 c11 c10' c11' q1 q2 q3 q4
        rw [lk_k4 c6 c6' c8 c8' hx hy c10 c10' c11 c11' (by omega) (by omega) (by omega) (by omega), lk_k4 c6 c6' c8 c8' hx hy c10 c10' c11 c11' (by omega) (by omega) (by omega) (by omega), lk_congr hM d _ _ _ _ _ a a' (by omega) (by omega) h, lk_congr hM d _ _ _ _ _ b b' (by omega) (by omega) (up x y hx hy)]
      · intro k a b a' b' hk ha hb ha' hb' c6 c6' c10 c11 c12 c10' c11' c12' q1 q2 q3 q4
        rw [lk_k35 hk c6 c6' c10 c10' c11 c11' (by omega) (by omega) (by omega) (by omega), lk_k35 hk c6 c6' c10 c10' c11 c11' (by omega) (by omega) (by omega) (by omega), lk_congr hM d _ _ _ _ _ a a' (by omega) (by omega) h, lk_congr hM d _ _ _ _ _ b b' (by omega) (by omega) h]
      · intro a b e a' b' e' ha hb he ha' hb' he' c6 c6' c10 c11 c12 c10' c11' c12' q1 q2 q3 q4
        rw [lk_k6 c6 c6' c10 c10' c11 c11' c12 c12' (by omega) (by omega) (by omega) (by omega) (by omega) (by omega), lk_k6 c6 c6' c10 c10' c11 c11' c12 c12' (by omega) (by omega) (by omega) (by omega) (by omega) (by omega), lk_congr hM d _ _ _ _ _ a a' (by omega) (by omega) h, lk_congr hM d _ _ _ _ _ b b' (by omega) (by omega) h, lk_congr hM d _ _ _ _ _ e e' (by omega) (by omega) h]
    · rw [lk_ne h6, lk_ne h6]
