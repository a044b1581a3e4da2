theorem RMDd {c r : jS} {T n t k : Nat} {lx ty oa ob od lx' oa' ob' od' : Option Nat} (hT : Ty c r T) (hM : Tm c r T n) (ht : t < n) (hN : Nod c r T t k lx ty oa ob od) (hs : shp T n k lx' ty oa' ob' od') :
    ∃ (v : Int32) (c' r' : jS) (n' : Nat), xTerms_withParts c (nI t) (pv lx') (pv oa') (pv ob') (pv od') = some (v, c') ∧ m_remade r (nI t) (pv lx') (pv oa') (pv ob') (pv od') = some (v, r') ∧ fX c c' ∧ fM r r' ∧ AgX n c c' ∧ AgM n r r' ∧ n ≤ n' ∧ Tm c' r' T n' ∧
      (v = -3 ∨ ∃ t', t' < n' ∧ v = nI t' ∧ dpN c' t' = 1 + max (oz (dpN c) oa') (max (oz (dpN c) ob') (oz (dpN c) od')) ∧ (t' = t ∨ n ≤ t')) := by
  obtain ⟨v, c', r', e1, e2, fx, fm, ax, am, h⟩ := RMD hT hM ht hN hs
  obtain ⟨-, -, -, -, m3, m4, m5⟩ := id hs
  rcases h with ⟨rfl, rfl, h⟩ | ⟨rfl, rfl, rfl, q1, q2, q3, q4⟩ | ⟨rfl, hn, h, hN'⟩
  · exact ⟨_, _, _, n, e1, e2, fx, fm, ax, am, Nat.le_refl n, h, Or.inl rfl⟩
  · refine ⟨_, _, _, n, e1, e2, fx, fm, ax, am, Nat.le_refl n, hM, Or.inr ⟨t, ht, rfl, ?_, Or.inl rfl⟩⟩
    rw [q2, q3, q4]
    exact hN.2.2.1.2
  · refine ⟨_, _, _, n + 1, e1, e2, fx, fm, ax, am, Nat.le_succ n, h, Or.inr ⟨n, Nat.lt_succ_self n, rfl, ?_, Or.inr (Nat.le_refl n)⟩⟩
    have hd := hN'.2.2.1.2
    have kk : ∀ p, p < n → dpN c' p = dpN c p := fun p hp => dp_keep ax hp
    rw [hd, oz_congr m3 kk, oz_congr m4 kk, oz_congr m5 kk]
/-- the pop with what was remade -/
theorem put_pop {T : Nat} {c r r1 : jS} {n p : Nat} {v4 : Int32} {P : Nat → Prop} (am0 : AgM n r r1) (fs0 : fS p r r1) (el : ∀ r', m_putTurn r = some ((), r') → m_putOf_L23 v4 r = m_putOf_L23 v4 r')
    {v : Int32} {c' r' : jS} {n' : Nat} (fx : fX c c') (fm : fM r1 r') (ax : AgX n c c') (am : AgM n r1 r') (hn : n ≤ n') (hM' : Tm c' r' T n') (hv : v = -3 ∨ ∃ t', t' < n' ∧ v = nI t' ∧ P t')
    (turn : m_putTurn r = some ((), su (su r' 30 22 v) 30 14 (nI p))) :
    ∃ (r2 : jS), n ≤ n' ∧ Tm c' r2 T n' ∧ AgX n c c' ∧ AgM n r r2 ∧ fS p r r2 ∧ m_putOf_L23 v4 r = m_putOf_L23 v4 r2 ∧ ((v = -3 ∧ r2 30 22 = -3) ∨ ∃ t', t' < n' ∧ v = nI t' ∧ r2 30 14 = nI p ∧ r2 30 22 = nI t' ∧ P t') := by
  have g22 : (su (su r' 30 22 v) 30 14 (nI p)) 30 22 = v := by rw [su_row, upd_n (by omega), su_row, upd_s]
  have g14 : (su (su r' 30 22 v) 30 14 (nI p)) 30 14 = nI p := by rw [su_row, upd_s]
  refine ⟨su (su r' 30 22 v) 30 14 (nI p), hn, Tm_r (AgM_30 (AgM_30 AgM.rf)) (by rw [su_row, upd_n (by omega), su_row, upd_n (by omega)]) hM', ax, AgM_30 (AgM_30 (am0.tr (Nat.le_refl n) am)), fS_30 (fS_30 (fs0.tr (Nat.le_refl p) (fS_M fm)) (by omega)) (by omega), el _ turn, ?_⟩
  rcases hv with rfl | ⟨t', h1, rfl, h3⟩
  · exact Or.inl ⟨rfl, g22⟩
  · exact Or.inr ⟨t', h1, rfl, g14, g22, h3⟩
/-- the last turn of a function or a let -/
theorem bind_fin {T t k x u y z g : Nat} {c r : jS} {n p : Nat} {v4 A : Int32} {ty oa ob' od : Option Nat} (hT : Ty c r T) (hM : Tm c r T n) (ht : t < n) (hx : x < 26) (hN : Nod c r T t k (some y) ty oa ob' od) (hk : k = 2 ∨ k = 4) {b : Nat} (hb : r 39 (3 * t + bdy k) = nI b) (hp : p < 90) (h14 : r 30 14 = nI (p + 1)) (h22 : r 30 22 = nI g) (hg : g < n) (hz : z < 26) (hE : Eb r p t 13 A (nI z) (nI x) (nI u)) {oa2 ob2 : Option Nat}
    (hs : shp T n k (some z) ty oa2 ob2 none) (h2 : k = 2 → oa2 = some g) (h4' : k = 4 → A = pv oa2 ∧ ob2 = some g) :
    ∃ (v : Int32) (c' r' : jS) (n' : Nat), xTerms_withParts c (nI t) (nI z) (pv oa2) (pv ob2) (-2) = some (v, c') ∧ fX c c' ∧ n ≤ n' ∧ Tm c' r' T n' ∧ AgX n c c' ∧ AgM n r r' ∧ fS p r r' ∧ m_putOf_L23 v4 r = m_putOf_L23 v4 r' ∧
      ((v = -3 ∧ r' 30 22 = -3) ∨ ∃ t', t' < n' ∧ v = nI t' ∧ r' 30 14 = nI p ∧ r' 30 22 = nI t' ∧ dpN c' t' = 1 + max (oz (dpN c) oa2) (max (oz (dpN c) ob2) (oz (dpN c) none)) ∧ (t' = t ∨ n ≤ t')) := by
  have h4 := hM.2.2.1
  obtain ⟨e43, e44, e45, e46, e48, e49⟩ := id hE
  obtain ⟨hs0, ⟨c6, c8, -⟩, -⟩ := id hN
  have hk7 := hs0.1
  have am0 : AgM n r (su r 44 p (nI 14)) := AgM_su AgM.rf (by omega)
  have fs0 : fS p r (su r 44 p (nI 14)) := fS_su fS.rf (by omega) (by omega) (Nat.le_refl p)
  have hM1 : Tm c (su r 44 p (nI 14)) T n := Tm_r am0 rfl hM
  obtain ⟨v, c', r', n', f1, f2, fx, fm, ax, am, hn, hM', hv⟩ := RMDd (Ty_S fX.rf fs0 hT) hM1 ht (Nod_keep AgX.rf am0 fX.rf ht hN) hs
  have hE3 : EnP r p t 13 A (nI z) (r 47 p) (nI x) (nI u) := ⟨⟨h14, e43, e44, e45, e46, rfl⟩, e48, e49⟩
  have turn : m_putTurn r = some ((), su (su r' 30 22 v) 30 14 (nI p)) := by
    rw [bt_late hM ht hE3 hp (Or.inr rfl) hx hk c6]
    refine pb3 (b := b) hM1 ht hp hk7 c6 h14 e46 e48 e49 hb fm ?_
    have e22 : (su r 44 p (nI (13 + 1))) 30 22 = nI g := h22
    have e45' : (su r 44 p (nI (13 + 1))) 45 p = A := e45
    rcases hk with rfl | rfl
    · rw [if_neg (by decide), e22]
      have q := h2 rfl
      subst q
      rcases shp_cases hs with ⟨q, -⟩ | ⟨q, -⟩ | ⟨-, x', y', a, q1, q2, q3, q4, q5, q6, rfl, -⟩ | ⟨q, -⟩ | ⟨q, -⟩ | ⟨q, -⟩ | ⟨q, -⟩
      · omega
      · omega
      · exact f2
      all_goals omega
    · rw [if_pos rfl, e22, e45']
      obtain ⟨q1, q2⟩ := h4' rfl
      subst q2
      rw [q1]
      exact f2
  obtain ⟨r2, a1, a2, a3, a4, a5, a6, a7⟩ := put_pop (v4 := v4) am0 fs0 (fun r' h => put_step h14 hp (by rw [h22]; exact nI_ne (by omega) (by decide)) h) fx fm ax am hn hM' hv turn
  exact ⟨v, c', r2, n', f1, fx, a1, a2, a3, a4, a5, a6, a7⟩
/-- turns of what has parts alone -/
theorem pt_parts {c r : jS} {T n p t s k x : Nat} {A B C U : Int32} (hM : Tm c r T n) (ht : t < n) (h : EnP r p t s A B C (nI x) U) (hp : p < 90) (hs : s ≤ 3) (hx : x < 26) (hk : k = 3 ∨ k = 5 ∨ k = 6) (h6 : c 6 t = nI k) (hf : 0 < frN r t x) : m_putTurn r = m_putParts_P62 (nI p) (nI t) (nI s) (nI (kP k)) (stS r p s) := by
  have h4 := hM.2.2.1
  have e : m_putTurn r = m_putTurn_P75 (nI p) (nI t) (nI s) (nI k) (su r 44 p (nI (s + 1))) := by
    rw [pt_eq hM ht h hp (by omega) hx h6, if_pos hf]
    by_cases h0 : s = 0
    · rw [if_pos h0]
    · rw [if_neg h0]
  rw [e]
  have hM1 : Tm c (su r 44 p (nI (s + 1))) T n := Tm_r (AgM_su AgM.rf (by omega)) rfl hM
  have r35 : (su r 44 p (nI (s + 1))) 35 t = nI k := (hM1.2.2.2 t ht).1.1.1.trans h6
  have g : ∀ {α : Type} {x : Option α}, gd (ix (nI p) 90) x = x := fun {α x} => gd_t (ix_nI (by omega) (by decide))
  have q1 : ¬ nI k = (1 : Int32) := fun e => by have := (nI_eq (b := 1) (by omega) (by decide)).mp e; omega
  have q2 : ¬ nI k = (2 : Int32) := fun e => by have := (nI_eq (b := 2) (by omega) (by decide)).mp e; omega
  have q4 : ¬ nI k = (4 : Int32) := fun e => by have := (nI_eq (b := 4) (by omega) (by decide)).mp e; omega
  have c1 : (nI s = (1 : Int32)) ↔ s = 1 := nI_eq (b := 1) (by omega) (by decide)
  have c2 : (nI s = (2 : Int32)) ↔ s = 2 := nI_eq (b := 2) (by omega) (by decide)
  have c3 : (nI s = (3 : Int32)) ↔ s = 3 := nI_eq (b := 3) (by omega) (by decide)
  unfold m_putTurn_P75 m_putTurn_P168 m_putParts
  rw [if_neg q1, if_neg q2, if_neg q4, if_neg q4, bd_eta, gd_t (ix_nI (by omega) (by decide)), nI_clamp (by omega), r35, show m_partsOf (su r 44 p (nI (s + 1))) (nI k) = some (nI (kP k)) from pO (by omega) _, ob_s]
  simp only [g, ltS, nI_clamp (show p < 2 ^ 31 by omega)]
  unfold stS
  by_cases h1 : s = 1
  · rw [if_pos (c1.mpr h1), if_pos h1]
    rfl
  · rw [if_neg (fun e => h1 (c1.mp e)), if_neg h1]
    by_cases h2 : s = 2
    · rw [if_pos (c2.mpr h2), if_pos h2]
      rfl
    · rw [if_neg (fun e => h2 (c2.mp e)), if_neg h2]
      by_cases h3 : s = 3
      · rw [if_pos (c3.mpr h3), if_pos h3]
        rfl
      · rw [if_neg (fun e => h3 (c3.mp e)), if_neg h3]
theorem stS_48 {r : jS} {p s : Nat} : (stS r p s) 48 = r 48 ∧ (stS r p s) 49 = r 49 := by
  unfold stS
  by_cases h1 : s = 1
  · rw [if_pos h1]; exact ⟨rfl, rfl⟩
  · rw [if_neg h1]
    by_cases h2 : s = 2
    · rw [if_pos h2]; exact ⟨rfl, rfl⟩
    · rw [if_neg h2]
      by_cases h3 : s = 3
      · rw [if_pos h3]; exact ⟨rfl, rfl⟩
      · rw [if_neg h3]; exact ⟨rfl, rfl⟩
theorem put_part {T d : Nat} (ih : Put T d) {f t s k q x u : Nat} {c r : jS} {n p : Nat} {v4 A B C : Int32} (hT : Ty c r T) (hM : Tm c r T n) (ht : t < n) (hE : EnP r p t s A B C (nI x) (nI u)) (hk : k = 3 ∨ k = 5 ∨ k = 6) (h6 : c 6 t = nI k) (hs : s < kP k) (hx : x < 26) (hu : u < n) (hfr : 0 < frN r t x) (hq : r 39 (3 * t + s) = nI q) (hqn : q < n) (hd : dpN c q ≤ d) (hf : 3 * d ≤ f) (hp : p + 1 + d ≤ 90) (hp1 : p + 1 < 90) (hg : r 30 22 ≠ -3) :
    ∃ (v : Int32) (c' r' : jS) (n' : Nat), xPutter_into f c (nI q) (nI x) (nI u) = some (v, c') ∧ fX c c' ∧ n ≤ n' ∧ Tm c' r' T n' ∧ AgX n c c' ∧ AgM n r r' ∧ fS p r r' ∧ m_putOf_L23 v4 r = m_putOf_L23 v4 r' ∧
      ((v = -3 ∧ r' 30 22 = -3) ∨ ∃ t', t' < n' ∧ v = nI t' ∧ r' 30 22 = nI t' ∧ dpN c' t' + 1 ≤ dpN c q + dpN c u ∧ EnP r' p t (s + 1) (if s = 1 then r 30 22 else A) (if s = 2 then r 30 22 else B) (if s = 3 then r 30 22 else C) (nI x) (nI u)) := by
  have h4 := hM.2.2.1
  have k3 : kP k ≤ 3 := kP_3 (by omega)
  have tab := stS_tab (r := r) (p := p) (s := s) (n := n)
  have hM' : Tm c (stS r p s) T n := Tm_r tab.1 (by rw [tab.2.2]) hM
  have hT' : Ty c (stS r p s) T := Ty_S fX.rf tab.2.1 hT
  obtain ⟨hE0, e48, e49⟩ := id hE
  have hE' := stS_En hE0
  have s48 : (stS r p s) 48 p = nI x := by rw [stS_48.1]; exact e48
  have s49 : (stS r p s) 49 p = nI u := by rw [stS_48.2]; exact e49
  obtain ⟨v, c', r', n', e1, fx, hn, hM2, ax, am, fs, el, h⟩ := ih f q x u c (stS r p s) n (p + 1) v4 hT' hM' hqn hx hu hd hf hp (by rw [tab.2.2]; exact hE0.1) (by rw [tab.2.2]; exact hg)
  have turn : m_putTurn r = some ((), pshP (stS r p s) (p + 1) (nI q) (nI x) (nI u)) := by
    rw [pt_parts hM ht hE (by omega) (by omega) hx hk h6 hfr]
    unfold m_putParts_P62
    have g : ∀ {α : Type} {x : Option α}, gd (ix (nI p) 90) x = x := fun {α x} => gd_t (ix_nI (by omega) (by decide))
    rw [if_neg (show ¬ nI (kP k) ≤ nI s from nI_ge hs (by omega)), m_part_t hM' ht (by omega), ob_s, tab.1.2.1 _ (show 3 * t + s < 3 * n by omega), hq, g, g, nI_clamp (by omega), s48, s49, m_pushPut_t (p := p + 1) (by rw [tab.2.2]; exact hE0.1) hp1, bd_s]
  refine ⟨v, c', r', n', e1, fx, hn, hM2, ax, tab.1.tr (Nat.le_refl n) am, tab.2.1.tr (by omega) fs, (put_step hE0.1 (by omega) hg turn).trans el, ?_⟩
  rcases h with h | ⟨t', h1, h2, h3, h5, h6, -⟩
  · exact Or.inl h
  · obtain ⟨e1, e2, e3, e4, e5, e6⟩ := hE'
    have kk : ∀ q, 43 ≤ q → q ≤ 49 → r' q p = (stS r p s) q p := fun q h1 h2 => fs.2.2 q h1 h2 p (by omega)
    exact Or.inr ⟨t', h1, h2, h5, h6, ⟨h3, (kk 43 (by omega) (by omega)).trans e2, (kk 44 (by omega) (by omega)).trans e3, (kk 45 (by omega) (by omega)).trans e4, (kk 46 (by omega) (by omega)).trans e5, (kk 47 (by omega) (by omega)).trans e6⟩, (kk 48 (by omega) (by omega)).trans s48, (kk 49 (by omega) (by omega)).trans s49⟩
theorem parts_fin {T t k x u : Nat} {c r : jS} {n p : Nat} {v4 A B C : Int32} {ty oa ob' od oa' ob2 od' : Option Nat} (hT : Ty c r T) (hM : Tm c r T n) (ht : t < n) (hN : Nod c r T t k none ty oa ob' od) (hk : k = 3 ∨ k = 5 ∨ k = 6) (hs : shp T n k none ty oa' ob2 od') (hE : EnP r p t (kP k) A B C (nI x) (nI u)) (hx : x < 26) (hfr : 0 < frN r t x) (hp : p < 90) (hg : r 30 22 ≠ -3)
    (hA : (if kP k = 1 then r 30 22 else A) = pv oa') (hB : (if kP k = 2 then r 30 22 else B) = pv ob2) (hC : (if kP k = 3 then r 30 22 else C) = pv od') :
    ∃ (v : Int32) (c' r' : jS) (n' : Nat), xTerms_withParts c (nI t) (-2) (pv oa') (pv ob2) (pv od') = some (v, c') ∧ fX c c' ∧ n ≤ n' ∧ Tm c' r' T n' ∧ AgX n c c' ∧ AgM n r r' ∧ fS p r r' ∧ m_putOf_L23 v4 r = m_putOf_L23 v4 r' ∧
      ((v = -3 ∧ r' 30 22 = -3) ∨ ∃ t', t' < n' ∧ v = nI t' ∧ r' 30 14 = nI p ∧ r' 30 22 = nI t' ∧ dpN c' t' = 1 + max (oz (dpN c) oa') (max (oz (dpN c) ob2) (oz (dpN c) od')) ∧ (t' = t ∨ n ≤ t')) := by
  have h4 := hM.2.2.1
  obtain ⟨hs0, ⟨c6, c8, -⟩, -⟩ := id hN
  have hk7 := hs0.1
  have k3 := kP_3 hk7
  have tab := stS_tab (r := r) (p := p) (s := kP k) (n := n)
  have hM' : Tm c (stS r p (kP k)) T n := Tm_r tab.1 (by rw [tab.2.2]) hM
  obtain ⟨e1, e2, e3, e4, e5, e6⟩ := stS_En hE.1
  rw [hA] at e4
  rw [hB] at e5
  rw [hC] at e6
  obtain ⟨v, c', r', n', f1, f2, fx, fm, ax, am, hn, hM2, hv⟩ := RMDd (Ty_S fX.rf tab.2.1 hT) hM' ht (Nod_keep AgX.rf tab.1 fX.rf ht hN) hs
  have r37 : (stS r p (kP k)) 37 t = pv none := (hM'.2.2.2 t ht).1.1.2.2.1.trans c8
  have turn : m_putTurn r = some ((), su (su r' 30 22 v) 30 14 (nI p)) := by
    rw [pt_parts hM ht hE hp k3 hx hk c6 hfr]
    unfold m_putParts_P62
    have g : ∀ {α : Type} {x : Option α}, gd (ix (nI p) 90) x = x := fun {α x} => gd_t (ix_nI (by omega) (by decide))
    have gt : ∀ {α : Type} {x : Option α}, gd (ix (nI t) 400) x = x := fun {α x} => gd_t (ix_nI (by omega) (by decide))
    rw [if_pos (nI_le (Nat.le_refl _) (by omega))]
    simp only [g, gt, nI_clamp (show p < 2 ^ 31 by omega), nI_clamp (show t < 2 ^ 31 by omega)]
    rw [r37, e4, e5, e6, f2, bd_s, ltS, ltS, show (su r' 30 22 v) 30 14 = nI (p + 1) from (by rw [su_row, upd_n (by omega), fm.2 14 (by omega)]; exact e1), nI_pred]
  obtain ⟨r2, a1, a2, a3, a4, a5, a6, a7⟩ := put_pop (v4 := v4) tab.1 tab.2.1 (fun r' h => put_step hE.1.1 hp hg h) fx fm ax am hn hM2 hv turn
  exact ⟨v, c', r2, n', f1, fx, a1, a2, a3, a4, a5, a6, a7⟩
