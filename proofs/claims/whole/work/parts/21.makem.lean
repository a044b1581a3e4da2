def rw42 (c : jS) (g : Nat → Int32) : jS := fun q => if q = 42 then g else c q
theorem rw42_42 {c : jS} {g : Nat → Int32} : rw42 c g 42 = g := rfl
theorem rw42_ne {c : jS} {g : Nat → Int32} {q : Nat} (h : q ≠ 42) : rw42 c g q = c q := by unfold rw42; rw [if_neg h]
theorem rw42_id (c : jS) : rw42 c (c 42) = c := by
  funext q
  unfold rw42
  by_cases h : q = 42
  · rw [if_pos h, h]
  · rw [if_neg h]
theorem rw42_rw {c : jS} {g g' : Nat → Int32} : rw42 (rw42 c g) g' = rw42 c g' := by
  funext q
  unfold rw42
  by_cases h : q = 42
  · rw [if_pos h, if_pos h]
  · rw [if_neg h, if_neg h, if_neg h]
theorem rw42_su {c : jS} {g : Nat → Int32} {k : Nat} {v : Int32} : su (rw42 c g) 42 k v = rw42 c (upd g k v) := by
  funext q
  unfold su rw42
  by_cases h : q = 42
  · rw [if_pos h, if_pos h, if_pos rfl]
  · rw [if_neg h, if_neg h, if_neg h]
theorem lp_om {σ ρ : Type} {f : σ → Option (σ ⊕ ρ)} {s : σ} {x : Option ρ} (h : f s = om x) : lp f s = x := by
  match x, h with
  | some r, h => exact lp_inr h
  | none, h =>
    match hs : lp f s with
    | none => rfl
    | some r =>
      obtain ⟨k, hk⟩ := lp_some hs
      match k, hk with
      | k + 1, hk =>
        unfold lpk at hk
        rw [h] at hk
        cases hk
theorem ad26 (t y : Nat) : (26 : Int32) * nI t + nI y = nI (26 * t + y) := by
  rw [show (26 : Int32) = nI 26 from rfl, nI_mulI, nI_add]
theorem ad3 (t k : Nat) : (3 : Int32) * nI t + nI k = nI (3 * t + k) := by
  rw [show (3 : Int32) = nI 3 from rfl, nI_mulI, nI_add]
/-- the row of free counts of t once the letters below y of the part p are added -/
def adF (f : Nat → Int32) (t p : Nat) (b : Nat → Bool) (y : Nat) : Nat → Int32 :=
  fun j => if 26 * t ≤ j ∧ j < 26 * t + y then f j + (if b (j - 26 * t) = true then 0 else f (26 * p + (j - 26 * t))) else f j
def bdv (v1 v3 v11 : Int32) (z : Nat) : Bool := decide (nI z = v3) && (decide (v1 = 2) || (decide (v1 = 4) && decide (v11 = 1)))
theorem adF_0 {f : Nat → Int32} {t p : Nat} {b : Nat → Bool} : adF f t p b 0 = f := by
  funext j
  unfold adF
  rw [if_neg (by omega)]
theorem adF_s {f : Nat → Int32} {t p y : Nat} {b : Nat → Bool} (hp : p < t) (hy : y < 26) : upd (adF f t p b y) (26 * t + y) (adF f t p b y (26 * t + y) + (if b y = true then 0 else adF f t p b y (26 * p + y))) = adF f t p b (y + 1) := by
  funext j
  have e1 : adF f t p b y (26 * t + y) = f (26 * t + y) := by unfold adF; rw [if_neg (by omega)]
  have e2 : adF f t p b y (26 * p + y) = f (26 * p + y) := by unfold adF; rw [if_neg (by omega)]
  rw [e1, e2]
  by_cases h : j = 26 * t + y
  · subst h
    rw [upd_s]
    unfold adF
    have hc : 26 * t ≤ 26 * t + y ∧ 26 * t + y < 26 * t + (y + 1) := by omega
    rw [if_pos hc, show 26 * t + y - 26 * t = y by omega]
  · rw [upd_n h]
    unfold adF
    by_cases h2 : 26 * t ≤ j ∧ j < 26 * t + y
    · have h3 : 26 * t ≤ j ∧ j < 26 * t + (y + 1) := by omega
      rw [if_pos h2, if_pos h3]
    · have h3 : ¬ (26 * t ≤ j ∧ j < 26 * t + (y + 1)) := by omega
      rw [if_neg h2, if_neg h3]
theorem mk_S201 {v1 v3 v9 v10 v11 : Int32} {t p y : Nat} {c : jS} (ht : t < 400) (hp : p < t) (hy : y < 26) : m_make_S201 v1 v3 (nI t) v9 v10 v11 (nI p) (nI y) c = some (Sum.inl (v1, v3, nI t, v9, v10, v11, nI p, nI (y + 1), su c 42 (26 * t + y) (c 42 (26 * t + y) + (if bdv v1 v3 v11 y = true then 0 else c 42 (26 * p + y))))) := by
  have hP : ∀ s0 : Int32, m_make_P235_201 v1 v3 (nI t) v9 v10 v11 (nI p) (nI y) s0 c = some (Sum.inl (v1, v3, nI t, v9, v10, v11, nI p, nI (y + 1), su c 42 (26 * t + y) (c 42 (26 * t + y) + (if s0 = 0 then c 42 (26 * p + y) else 0)))) := by
    intro s0
    unfold m_make_P235_201 m_freeOf
    rw [ad26, ad26, gd_t (ix_nI (by omega) (by decide)), gd_t (ix_nI (by omega) (by decide)), nI_clamp (by omega), nI_clamp (by omega), nI_1]
    by_cases h : s0 = 0
    · rw [if_pos h, if_pos h, ob_s, gd_t (ix_nI (by omega) (by decide))]
      rfl
    · rw [if_neg h, if_neg h, gd_t (ix_nI (by omega) (by decide))]
      rfl
  unfold m_make_S201
  rw [if_neg (show ¬ (26 : Int32) ≤ nI y from nI_ge (b := 26) hy (by decide))]
  unfold m_make_P230_201 m_make_P234_201
  rw [hP, hP]
  unfold bdv
  by_cases h3 : nI y = v3
  · rw [if_pos h3]
    by_cases h1 : v1 = 2
    · rw [if_pos h1, if_neg (by decide)]
      simp [h3, h1]
    · rw [if_neg h1]
      by_cases h4 : v1 = 4
      · rw [if_pos h4]
        by_cases h5 : v11 = 1
        · rw [if_pos h5, if_neg (by decide)]
          simp [h3, h4, h5]
        · rw [if_neg h5, if_pos rfl]
          simp [h3, h4, h5]
      · rw [if_neg h4, if_pos rfl]
        simp [h3, h1, h4]
  · rw [if_neg h3, if_pos rfl]
    simp [h3]
theorem mk_L201 {v1 v3 v9 v10 v11 : Int32} {t p : Nat} (ht : t < 400) (hp : p < t) (c : jS) : ∀ (k y : Nat), y + k = 26 → m_make_L201 v1 v3 (nI t) v9 v10 v11 (nI p) (nI y) (rw42 c (adF (c 42) t p (bdv v1 v3 v11) y)) = some (Sum.inl (v1, v3, nI t, v9, v10, v11 + 1, rw42 c (adF (c 42) t p (bdv v1 v3 v11) 26)))
  | 0, y, h => by
    have hy : y = 26 := by omega
    subst hy
    unfold m_make_L201
    refine lp_inr ?_
    show m_make_S201 v1 v3 (nI t) v9 v10 v11 (nI p) (nI 26) _ = _
    unfold m_make_S201
    rw [if_pos (show (26 : Int32) ≤ nI 26 from nI_le (Nat.le_refl _) (by decide))]
  | k + 1, y, h => by
    rw [← mk_L201 ht hp c k (y + 1) (by omega)]
    unfold m_make_L201
    refine lp_inl ?_
    show m_make_S201 v1 v3 (nI t) v9 v10 v11 (nI p) (nI y) (rw42 c (adF (c 42) t p (bdv v1 v3 v11) y)) = _
    rw [mk_S201 ht hp (by omega), rw42_su, rw42_42, adF_s hp (by omega)]

/-- the parts of t from the k-th on -/
def Pt (c : jS) (t k : Nat) : List Nat → Prop
  | [] => True
  | p :: ps => c 39 (3 * t + k) = nI p ∧ p < t ∧ Pt c t (k + 1) ps
def mkF (f : Nat → Int32) (t : Nat) (v1 v3 : Int32) : Nat → List Nat → (Nat → Int32)
  | _, [] => f
  | k, p :: ps => mkF (adF f t p (bdv v1 v3 (nI k)) 26) t v1 v3 (k + 1) ps
def mkS (c : jS) (v : Int32) : List Nat → Int32
  | [] => v
  | p :: ps => mkS c (v + c 40 p) ps
def mkD (c : jS) (v : Int32) : List Nat → Int32
  | [] => v
  | p :: ps => mkD c (if c 41 p ≤ v then v else c 41 p) ps
def mkE (c : jS) (t : Nat) (s d : Int32) : Int32 × jS :=
  if 1000 < s then (-3, su (su c 40 t s) 41 t (d + 1)) else (if d + 1 ≤ 40 then (nI t, su (su (su c 40 t s) 41 t (d + 1)) 30 5 (nI (t + 1))) else (-3, su (su c 40 t s) 41 t (d + 1)))
theorem Pt_rw {c : jS} {g : Nat → Int32} {t : Nat} : ∀ {k : Nat} {ps : List Nat}, Pt c t k ps → Pt (rw42 c g) t k ps
  | _, [], _ => trivial
  | k, p :: ps, h => ⟨h.1, h.2.1, Pt_rw (k := k + 1) (ps := ps) h.2.2⟩
theorem mkS_rw {c : jS} {g : Nat → Int32} : ∀ {v : Int32} {ps : List Nat}, mkS (rw42 c g) v ps = mkS c v ps
  | _, [] => rfl
  | v, p :: ps => mkS_rw (v := v + c 40 p) (ps := ps)
theorem mkD_rw {c : jS} {g : Nat → Int32} : ∀ {v : Int32} {ps : List Nat}, mkD (rw42 c g) v ps = mkD c v ps
  | _, [] => rfl
  | v, p :: ps => mkD_rw (v := if c 41 p ≤ v then v else c 41 p) (ps := ps)
theorem mk_L141 {v1 v3 : Int32} {t K : Nat} (ht : t < 400) (hK : ∀ c : jS, m_partsOf c v1 = some (nI K)) (hK3 : K ≤ 3) : ∀ (ps : List Nat) (k : Nat) (v9 v10 : Int32) (c : jS), c 30 5 = nI t → k + ps.length = K → Pt c t k ps → m_make_L141 v1 v3 (nI t) v9 v10 (nI k) c = some (mkE (rw42 c (mkF (c 42) t v1 v3 k ps)) t (mkS c v9 ps) (mkD c v10 ps))
  | [], k, v9, v10, c, hc, hk, hP => by
    have hk : k = K := by simpa using hk
    subst hk
    unfold m_make_L141
    refine lp_inr ?_
    show m_make_S141 v1 v3 (nI t) v9 v10 (nI k) c = _
    unfold m_make_S141
    rw [hK, ob_s, if_pos (nI_le (Nat.le_refl _) (by omega)), gd_t (ix_nI (by omega) (by decide)), ltS, gd_t (ix_nI (by omega) (by decide)), ltS, nI_clamp (by omega)]
    unfold mkF mkS mkD mkE
    rw [rw42_id]
    by_cases h1 : 1000 < v9
    · rw [if_pos h1, if_pos h1]
    · rw [if_neg h1, if_neg h1]
      by_cases h2 : v10 + 1 ≤ 40
      · rw [if_pos h2, if_pos h2, ltS, show (su (su c 40 t v9) 41 t (v10 + 1)) 30 5 = nI t from hc, nI_1]
      · rw [if_neg h2, if_neg h2]
  | p :: ps, k, v9, v10, c, hc, hk, hP => by
    have hk : k + 1 + ps.length = K := by simp at hk; omega
    obtain ⟨h39, hp, hP⟩ := hP
    have ih := mk_L141 (v3 := v3) ht hK hK3 ps (k + 1) (v9 + c 40 p) (if c 41 p ≤ v10 then v10 else c 41 p) (rw42 c (adF (c 42) t p (bdv v1 v3 (nI k)) 26)) hc hk (Pt_rw hP)
    rw [rw42_rw, mkS_rw, mkD_rw] at ih
    unfold mkF mkS mkD
    refine Eq.trans ?_ ih
    unfold m_make_L141
    refine lp_inl ?_
    show m_make_S141 v1 v3 (nI t) v9 v10 (nI k) c = _
    unfold m_make_S141 m_part
    rw [hK, ob_s, if_neg (nI_ge (by omega) (by omega)), ad3, gd_t (ix_nI (by omega) (by decide)), ob_s, nI_clamp (by omega), h39, gd_t (ix_nI (by omega) (by decide)), gd_t (ix_nI (by omega) (by decide)), nI_clamp (by omega)]
    have hl : ∀ w10 : Int32, m_make_L201 v1 v3 (nI t) (v9 + c 40 p) w10 (nI k) (nI p) 0 c = some (Sum.inl (v1, v3, nI t, v9 + c 40 p, w10, nI (k + 1), rw42 c (adF (c 42) t p (bdv v1 v3 (nI k)) 26))) := by
      intro w10
      have := mk_L201 (v1 := v1) (v3 := v3) (v9 := v9 + c 40 p) (v10 := w10) (v11 := nI k) ht hp c 26 0 rfl
      rw [adF_0, rw42_id, nI_1] at this
      exact this
    by_cases h4 : c 41 p ≤ v10
    · rw [if_pos h4, if_pos h4, hl]
    · rw [if_neg h4, if_neg h4, gd_t (ix_nI (by omega) (by decide)), hl]
def inF (f : Nat → Int32) (t : Nat) (v1 v3 : Int32) (y : Nat) : Nat → Int32 :=
  fun j => if 26 * t ≤ j ∧ j < 26 * t + y then (if v1 = 1 ∧ nI (j - 26 * t) = v3 then 1 else 0) else f j
theorem inF_0 {f : Nat → Int32} {t : Nat} {v1 v3 : Int32} : inF f t v1 v3 0 = f := by
  funext j
  unfold inF
  rw [if_neg (by omega)]
theorem inF_s {f : Nat → Int32} {t y : Nat} {v1 v3 : Int32} (hy : y < 26) : upd (inF f t v1 v3 y) (26 * t + y) (if v1 = 1 ∧ nI y = v3 then 1 else 0) = inF f t v1 v3 (y + 1) := by
  funext j
  by_cases h : j = 26 * t + y
  · subst h
    rw [upd_s]
    unfold inF
    have hc : 26 * t ≤ 26 * t + y ∧ 26 * t + y < 26 * t + (y + 1) := by omega
    rw [if_pos hc, show 26 * t + y - 26 * t = y by omega]
  · rw [upd_n h]
    unfold inF
    by_cases h2 : 26 * t ≤ j ∧ j < 26 * t + y
    · have h3 : 26 * t ≤ j ∧ j < 26 * t + (y + 1) := by omega
      rw [if_pos h2, if_pos h3]
    · have h3 : ¬ (26 * t ≤ j ∧ j < 26 * t + (y + 1)) := by omega
      rw [if_neg h2, if_neg h3]
theorem mk_L96 {v1 v3 v9 v10 : Int32} {t : Nat} (ht : t < 400) (c : jS) : ∀ (k y : Nat), y + k = 26 → m_make_L96 v1 v3 (nI t) v9 v10 (nI y) (rw42 c (inF (c 42) t v1 v3 y)) = m_make_L141 v1 v3 (nI t) v9 v10 (nI 0) (rw42 c (inF (c 42) t v1 v3 26))
  | 0, y, h => by
    have hy : y = 26 := by omega
    subst hy
    have e : m_make_S96 v1 v3 (nI t) v9 v10 (nI 26) (rw42 c (inF (c 42) t v1 v3 26)) = om (m_make_L141 v1 v3 (nI t) v9 v10 (nI 0) (rw42 c (inF (c 42) t v1 v3 26))) := by
      unfold m_make_S96
      rw [if_pos (show (26 : Int32) ≤ nI 26 from nI_le (Nat.le_refl _) (by decide))]
      rfl
    exact lp_om e
  | k + 1, y, h => by
    rw [← mk_L96 ht c k (y + 1) (by omega)]
    unfold m_make_L96
    refine lp_inl ?_
    show m_make_S96 v1 v3 (nI t) v9 v10 (nI y) (rw42 c (inF (c 42) t v1 v3 y)) = _
    unfold m_make_S96
    have hs : ∀ v : Int32, (v = if v1 = 1 ∧ nI y = v3 then 1 else 0) → su (rw42 c (inF (c 42) t v1 v3 y)) 42 (26 * t + y) v = rw42 c (inF (c 42) t v1 v3 (y + 1)) := by
      intro v hv
      rw [rw42_su, hv, inF_s (by omega)]
    rw [if_neg (show ¬ (26 : Int32) ≤ nI y from nI_ge (b := 26) (by omega) (by decide)), ad26, nI_clamp (by omega), nI_1]
    by_cases h1 : v1 = 1
    · rw [if_pos h1]
      by_cases h3 : nI y = v3
      · rw [if_pos h3, gd_t (ix_nI (by omega) (by decide)), ltS, hs 1 (by rw [if_pos ⟨h1, h3⟩])]
      · rw [if_neg h3, gd_t (ix_nI (by omega) (by decide)), ltS, hs 0 (by rw [if_neg (fun q => h3 q.2)])]
    · rw [if_neg h1, gd_t (ix_nI (by omega) (by decide)), ltS, hs 0 (by rw [if_neg (fun q => h1 q.1)])]
/-- the rows that make writes first -/
def mk0 (c : jS) (t : Nat) (v1 v2 v3 v4 a b d : Int32) : jS :=
  su (su (su (su (su (su (su c 35 t v1) 36 t v2) 37 t v3) 38 t v4) 39 (3 * t) a) 39 (3 * t + 1) b) 39 (3 * t + 2) d
theorem mk_make {c : jS} {v1 v2 v3 v4 a b d : Int32} {t K : Nat} {ps : List Nat} (ht : t < 400) (hc : c 30 5 = nI t) (hK : ∀ c : jS, m_partsOf c v1 = some (nI K)) (hK3 : K ≤ 3) (hk : ps.length = K) (hP : Pt (mk0 c t v1 v2 v3 v4 a b d) t 0 ps) :
    m_make c v1 v2 v3 v4 a b d = some (mkE (rw42 (mk0 c t v1 v2 v3 v4 a b d) (mkF (inF (c 42) t v1 v3 26) t v1 v3 0 ps)) t (mkS c 1 ps) (mkD c 0 ps)) := by
  unfold m_make
  have e0 : (3 : Int32) * nI t = nI (3 * t) := by rw [show (3 : Int32) = nI 3 from rfl, nI_mulI]
  rw [hc, if_neg (show ¬ nI t = (400 : Int32) from fun e => absurd ((nI_eq (b := 400) (by omega) (by decide)).mp e) (by omega))]
  rw [gd_t (ix_nI (by omega) (by decide)), ltS, gd_t (ix_nI (by omega) (by decide)), ltS, gd_t (ix_nI (by omega) (by decide)), ltS, gd_t (ix_nI (by omega) (by decide)), ltS, e0, gd_t (ix_nI (by omega) (by decide)), ltS, show nI (3 * t) + 1 = nI (3 * t + 1) from nI_1 _, gd_t (ix_nI (by omega) (by decide)), ltS, show nI (3 * t) + 2 = nI (3 * t + 2) from nI_add _ 2, gd_t (ix_nI (by omega) (by decide)), ltS, nI_clamp (by omega), nI_clamp (by omega), nI_clamp (by omega), nI_clamp (by omega)]
  have h96 := mk_L96 (v1 := v1) (v3 := v3) (v9 := 1) (v10 := 0) ht (mk0 c t v1 v2 v3 v4 a b d) 26 0 rfl
  rw [inF_0, rw42_id] at h96
  refine Eq.trans h96 ?_
  have h141 := mk_L141 (v1 := v1) (v3 := v3) ht hK hK3 ps 0 1 0 (rw42 (mk0 c t v1 v2 v3 v4 a b d) (inF ((mk0 c t v1 v2 v3 v4 a b d) 42) t v1 v3 26)) hc (by omega) (Pt_rw hP)
  rw [rw42_rw, mkS_rw, mkD_rw] at h141
  refine h141.trans ?_
  have eS : ∀ (v : Int32) (ps : List Nat), mkS (mk0 c t v1 v2 v3 v4 a b d) v ps = mkS c v ps := by
    intro v ps
    induction ps generalizing v with
    | nil => rfl
    | cons p ps ih => exact ih _
  have eD : ∀ (v : Int32) (ps : List Nat), mkD (mk0 c t v1 v2 v3 v4 a b d) v ps = mkD c v ps := by
    intro v ps
    induction ps generalizing v with
    | nil => rfl
    | cons p ps ih => exact ih _
  rw [eS, eD]
  rfl
