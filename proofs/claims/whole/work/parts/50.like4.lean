theorem la_pop {c r : jS} {T n t u p K : Nat} (hM : Tm c r T n) (ht : t < n) (hu : u < n) (hp : p < 90) (hK7 : K < 7) (hK : c 6 t = nI K) (E : EA r p t u (kP K)) (hn : ¬ (K = 2 ∨ K = 4)) :
    m_areAlike_L86 1 r = m_areAlike_L86 (if kP K = 0 then b2 (lh c (r 51) (r 52) t u) else 1) (su (su r 44 p (nI (kP K + 1))) 30 14 (nI p)) := by
  have h4 := hM.2.2.1
  have hk3 := kP_3 hK7
  have hM1 : Tm c (su r 44 p (nI (kP K + 1))) T n := Tm_r (AgM_su AgM.rf (by omega)) rfl hM
  have h35 : (su r 44 p (nI (kP K + 1))) 35 t = nI K := by rw [(hM1.2.2.2 t ht).1.1.1]; exact hK
  refine L86_s ?_
  rw [la_turn hM ht hu E (by omega) (by omega), la_164 (by omega) h35 hK7]
  unfold m_areAlike_P192_86
  rw [gd_t (ix_nI (by omega) (by decide)), nI_clamp (show t < 2 ^ 31 by omega), h35, pO hK7, ob_s, show (if K < 2 then 0 else if K = 2 then 1 else if K = 6 then 3 else 2) = kP K from rfl, if_pos rfl, if_neg hn, ltS, if_pos rfl, show (su r 44 p (nI (kP K + 1))) 30 14 = nI (p + 1) from E.1, nI_pred]
theorem la_popB {c r : jS} {T n t u p K x y lev : Nat} {A B : Int32} (hM : Tm c r T n) (ht : t < n) (hu : u < n) (hp : p < 90) (hb2 : K = 2 ∨ K = 4) (hK : c 6 t = nI K) (E : EA r p t u (kP K)) (hx : x < 26) (hy : y < 26) (c8 : c 8 t = nI x) (c8' : c 8 u = nI y) (hlev : r 30 28 = nI (lev + 1)) (h45 : r 45 p = A) (h46 : r 46 p = B) :
    m_areAlike_L86 1 r = m_areAlike_L86 1 (su (su (su (su (su r 44 p (nI (kP K + 1))) 30 14 (nI p)) 51 x A) 52 y B) 30 28 (nI lev)) := by
  have h4 := hM.2.2.1
  have hK7 : K < 7 := by omega
  have hk3 := kP_3 hK7
  have hM1 : Tm c (su r 44 p (nI (kP K + 1))) T n := Tm_r (AgM_su AgM.rf (by omega)) rfl hM
  have h35 : (su r 44 p (nI (kP K + 1))) 35 t = nI K := by rw [(hM1.2.2.2 t ht).1.1.1]; exact hK
  refine L86_s ?_
  have hk0 : kP K ≠ 0 := by
    rcases hb2 with rfl | rfl <;> decide
  rw [la_turn hM ht hu E (by omega) (by omega), la_164 (by omega) h35 hK7, if_neg hk0]
  generalize hR : su r 44 p (nI (kP K + 1)) = R at *
  have e37 : R 37 t = nI x := by rw [(hM1.2.2.2 t ht).1.1.2.2.1]; exact c8
  have f37 : R 37 u = nI y := by rw [(hM1.2.2.2 u hu).1.1.2.2.1]; exact c8'
  have g28 : R 30 28 = nI (lev + 1) := by rw [← hR]; exact hlev
  have g14 : R 30 14 = nI (p + 1) := by rw [← hR]; exact E.1
  have g45 : R 45 p = A := by rw [← hR]; exact h45
  have g46 : R 46 p = B := by rw [← hR]; exact h46
  have i1 : ix (nI t) 400 = true := ix_nI (by omega) (by decide)
  have i2 : ix (nI u) 400 = true := ix_nI (by omega) (by decide)
  have i3 : ix (nI p) 90 = true := ix_nI (by omega) (by decide)
  have i4 : ix (nI x) 26 = true := ix_nI (by omega) (by decide)
  have i5 : ix (nI y) 26 = true := ix_nI (by omega) (by decide)
  have k1 : (nI t).toNatClampNeg = t := nI_clamp (by omega)
  have k2 : (nI u).toNatClampNeg = u := nI_clamp (by omega)
  have k3 : (nI p).toNatClampNeg = p := nI_clamp (by omega)
  have k4 : (nI x).toNatClampNeg = x := nI_clamp (by omega)
  have k5 : (nI y).toNatClampNeg = y := nI_clamp (by omega)
  unfold m_areAlike_P192_86
  rw [gd_t i1, k1, h35, pO hK7, ob_s, show (if K < 2 then 0 else if K = 2 then 1 else if K = 6 then 3 else 2) = kP K from rfl, if_pos rfl, if_pos hb2, ltS, if_neg n10, gd_t i1, gd_t i3, g14, nI_pred]
  rw [show (su R 30 14 (nI p)) 37 t = nI x from e37, gd_t i4, k4, k3, ltS, gd_t i2, gd_t i3, k2]
  rw [show (su (su R 30 14 (nI p)) 51 x ((su R 30 14 (nI p)) 45 p)) 37 u = nI y from f37, gd_t i5, k5, ltS, ltS]
  show some (Sum.inl ((1 : Int32), su (su (su (su R 30 14 (nI p)) 51 x (R 45 p)) 52 y (R 46 p)) 30 28 (upd (R 30) 14 (nI p) 28 - 1))) = _
  rw [upd_n (by omega), g28, nI_pred, g45, g46]
theorem la_stop {c r : jS} {T n t u p K : Nat} (hM : Tm c r T n) (ht : t < n) (hu : u < n) (hp : p < 90) (hK7 : K < 7) (hK : c 6 t = nI K) (E : EA r p t u 0) (hl : lh c (r 51) (r 52) t u = false) :
    ∃ r', m_areAlike_L86 1 r = some (0, r') ∧ fA p r r' := by
  have h4 := hM.2.2.1
  have hk3 := kP_3 hK7
  have hM1 : Tm c (su r 44 p (nI 1)) T n := Tm_r (AgM_su AgM.rf (by omega)) rfl hM
  have h35 : (su r 44 p (nI 1)) 35 t = nI K := by rw [(hM1.2.2.2 t ht).1.1.1]; exact hK
  by_cases hk : kP K = 0
  · have hn : ¬ (K = 2 ∨ K = 4) := by
      intro q
      rcases q with rfl | rfl
      · exact absurd hk (by decide)
      · exact absurd hk (by decide)
    have e := la_pop hM ht hu hp hK7 hK (by rw [hk]; exact E) hn
    rw [if_pos hk, hl, b2_f, L86_0] at e
    exact ⟨_, e, fA_30 (fA_su fA.rf (by omega) (by omega) (Nat.le_refl p)) (by omega)⟩
  · refine ⟨su r 44 p (nI 1), ?_, fA_su fA.rf (by omega) (by omega) (Nat.le_refl p)⟩
    have e : m_areAlike_L86 1 r = m_areAlike_L86 0 (su r 44 p (nI 1)) := by
      refine L86_s ?_
      rw [la_turn hM ht hu E (by omega) (by omega), la_164 (by omega) h35 hK7, if_pos rfl, hl, b2_f]
      unfold m_areAlike_P192_86
      rw [gd_t (ix_nI (by omega) (by decide)), nI_clamp (show t < 2 ^ 31 by omega), h35, pO hK7, ob_s, show (if K < 2 then 0 else if K = 2 then 1 else if K = 6 then 3 else 2) = kP K from rfl, if_neg (fun e => absurd ((nI_eq (by omega) (by omega)).mp e) (by omega)), if_pos rfl]
    rw [e, L86_0]
def AlS (c : jS) (T n d : Nat) : Prop := ∀ (t u p lev : Nat) (r : jS), Tm c r T n → t < n → u < n → dpN c t ≤ d → p + d ≤ 90 → EA r p t u 0 → r 30 28 = nI lev → lev + d ≤ 1000 →
  (lk c d (r 51) (r 52) lev t u = true ∧ ∃ r', m_areAlike_L86 1 r = m_areAlike_L86 1 r' ∧ fA p r r' ∧ r' 30 14 = nI p ∧ r' 30 28 = nI lev ∧ r' 51 = r 51 ∧ r' 52 = r 52) ∨
  (lk c d (r 51) (r 52) lev t u = false ∧ ∃ r', m_areAlike_L86 1 r = some (0, r') ∧ fA p r r')
theorem la_child {c : jS} {T n d : Nat} (ih : AlS c T n d) {t u p k a b lev : Nat} {r0 : jS} {L : Option (Int32 × jS)} (hM : Tm c r0 T n) (ha : a < n) (hb : b < n) (hd : dpN c a ≤ d) (hp : p + 1 + d ≤ 90) (h43 : r0 43 p = nI t) (h49 : r0 49 p = nI u) (h44 : r0 44 p = nI (k + 1)) (h28 : r0 30 28 = nI lev) (hlev : lev + d ≤ 1000) (hL : L = m_areAlike_L86 1 (pshA r0 (p + 1) (nI a) (nI b))) :
    (lk c d (r0 51) (r0 52) lev a b = true ∧ ∃ r', L = m_areAlike_L86 1 r' ∧ fA (p + 1) r0 r' ∧ EA r' p t u (k + 1) ∧ r' 30 28 = nI lev ∧ r' 51 = r0 51 ∧ r' 52 = r0 52) ∨
    (lk c d (r0 51) (r0 52) lev a b = false ∧ ∃ r', L = some (0, r') ∧ fA (p + 1) r0 r') := by
  have f0 : fA (p + 1) r0 (pshA r0 (p + 1) (nI a) (nI b)) := fA_pshA fA.rf (Nat.le_refl _)
  rcases ih a b (p + 1) lev _ (Tm_A f0 hM) ha hb hd hp EA_psh (by show psh r0 (p + 1) (nI a) 30 28 = _; rw [psh_5 (by omega)]; exact h28) hlev with ⟨h1, r', h2, h3, h4, h5, h6, h7⟩ | ⟨h1, r', h2, h3⟩
  · have F := f0.tr (Nat.le_refl _) h3
    refine Or.inl ⟨h1, r', hL.trans h2, F, ⟨h4, ?_, ?_, ?_⟩, h5, h6, h7⟩
    · rw [F.2.2 43 (by omega) (by omega) p (by omega)]; exact h43
    · rw [F.2.2 49 (by omega) (by omega) p (by omega)]; exact h49
    · rw [F.2.2 44 (by omega) (by omega) p (by omega)]; exact h44
  · exact Or.inr ⟨h1, r', hL.trans h2, f0.tr (Nat.le_refl _) h3⟩
theorem fA_dn {p : Nat} {r r' : jS} (h : fA (p + 1) r r') : fA p r r' := ⟨h.1, h.2.1, fun q h1 h2 i hi => h.2.2 q h1 h2 i (by omega)⟩
theorem upd_back {f : Nat → Int32} {x : Nat} {v : Int32} : upd (upd f x v) x (f x) = f := by
  funext i
  by_cases h : i = x
  · subst h; rw [upd_s]
  · rw [upd_n h, upd_n h]
set_option maxHeartbeats 1000000 in
theorem la_sim {c : jS} {T n : Nat} : ∀ d, AlS c T n d
  | 0 => fun t u p lev r hM ht hu hd => absurd (dp_pos hM ht) (by omega)
  | d + 1 => by
    have ih := la_sim (c := c) (T := T) (n := n) d
    intro t u p lev r hM ht hu hd hp E h28 hlev
    have h4 := hM.2.2.1
    obtain ⟨⟨r35, r36, r37, r38, r39, r39b, r39c, r40, r41⟩, -⟩ := (hM.2.2.2 t ht).1
    obtain ⟨⟨s35, s36, s37, s38, s39, s39b, s39c, s40, s41⟩, -⟩ := (hM.2.2.2 u hu).1
    have hKt : ∃ K, K < 7 ∧ c 6 t = nI K := by
      obtain ⟨-, k, lx, ty, oa, ob, od, hs, ⟨c6, -⟩, -⟩ := hM.2.2.2 t ht
      exact ⟨k, hs.1, c6⟩
    by_cases h6 : c 6 t = c 6 u
    · refine two_cases hM ht hu h6 ?_ ?_ ?_ ?_ ?_ ?_
      · intro c6 c6' q1 q2 q3 q4
        have el : lh c (r 51) (r 52) t u = lk c (d + 1) (r 51) (r 52) lev t u := by
          rw [lk_k0 c6 c6']
          unfold lh
          rw [if_pos h6, c6, if_neg (by decide), if_pos (by decide)]
        cases hL : lk c (d + 1) (r 51) (r 52) lev t u with
        | false =>
          rw [hL] at el
          exact Or.inr ⟨rfl, la_stop hM ht hu (by omega) (by decide) c6 E el⟩
        | true =>
          have e := la_pop hM ht hu (by omega) (by decide) c6 E (by decide)
          rw [if_pos (by decide), el, hL] at e
          exact Or.inl ⟨rfl, _, e, fA_30 (fA_su fA.rf (by omega) (by omega) (Nat.le_refl p)) (by omega), by rw [su_row, upd_s], by rw [su_row, upd_n (by omega)]; exact h28, rfl, rfl⟩
      · intro x y hx hy c6 c6' c8 c8' q1 q2 q3 q4
        have el : lh c (r 51) (r 52) t u = lk c (d + 1) (r 51) (r 52) lev t u := by
          rw [lk_k1 c6 c6' c8 c8' hx hy]
          unfold lh chN
          rw [if_pos h6, c6, if_pos (by decide), c8, c8', nI_clamp (show x < 2 ^ 31 by omega), nI_clamp (show y < 2 ^ 31 by omega)]
        cases hL : lk c (d + 1) (r 51) (r 52) lev t u with
        | false =>
          rw [hL] at el
          exact Or.inr ⟨rfl, la_stop hM ht hu (by omega) (by decide) c6 E el⟩
        | true =>
          have e := la_pop hM ht hu (by omega) (by decide) c6 E (by decide)
          rw [if_pos (by decide), el, hL] at e
          exact Or.inl ⟨rfl, _, e, fA_30 (fA_su fA.rf (by omega) (by omega) (Nat.le_refl p)) (by omega), by rw [su_row, upd_s], by rw [su_row, upd_n (by omega)]; exact h28, rfl, rfl⟩
      · intro x y a b hx hy ha hb c6 c6' c8 c8' c10 c10' q1 q2 q3 q4
        have dpa := dp_pos hM (t := a) (by omega)
        rw [lk_k2 c6 c6' c8 c8' hx hy c10 c10' (by omega) (by omega)]
        have el : lh c (r 51) (r 52) t u = decide (c 9 t = c 9 u) := by
          unfold lh
          rw [if_pos h6, c6, if_neg (by decide), if_neg (by decide), if_pos (by decide)]
        by_cases h9 : c 9 t = c 9 u
        · rw [decide_eq_true h9] at el ⊢
          have e0 := la_bind hM ht hu (by omega) (Or.inl rfl) c6 (by decide) E (fun _ => el) (r39.trans c10) (s39.trans c10') hx hy c8 c8' h28
          have fb : fA p r (bndA (su r 44 p (nI (0 + 1))) p x y lev) := fA_30 (fA_e (fA_e (fA_su (fA_su (fA_su fA.rf (by omega) (by omega) (Nat.le_refl p)) (by omega) (by omega) (Nat.le_refl p)) (by omega) (by omega) (Nat.le_refl p)) (by omega)) (by omega)) (by omega)
          rcases la_child ih (t := t) (u := u) (k := 0) (lev := lev + 1) (Tm_A fb hM) (by omega) (by omega) (by omega) (by omega) (show r 43 p = nI t from E.2.1) (show r 49 p = nI u from E.2.2.1) (show upd (r 44) p (nI (0 + 1)) p = _ from upd_s) (show upd (r 30) 28 (nI (lev + 1)) 28 = _ from upd_s) (by omega) e0 with ⟨h1, r1, h2, h3, h5, h7, h8, h9'⟩ | ⟨h1, r1, h2, h3⟩
          · refine Or.inl ⟨?_, ?_⟩
            · rw [show lk c d (upd (r 51) x (nI lev)) (upd (r 52) y (nI lev)) (lev + 1) a b = true from h1]; rfl
            · have F := fb.tr (Nat.le_succ p) h3
              have e1 := la_popB (Tm_A F hM) ht hu (by omega) (Or.inl rfl) c6 h5 hx hy c8 c8' h7 (show r1 45 p = r 51 x from (h3.2.2 45 (by omega) (by omega) p (by omega)).trans (show upd (r 45) p (r 51 x) p = _ from upd_s)) (show r1 46 p = r 52 y from (h3.2.2 46 (by omega) (by omega) p (by omega)).trans (show upd (r 46) p (r 52 y) p = _ from upd_s))
              refine ⟨_, h2.trans e1, F.tr (Nat.le_refl p) (fA_30 (fA_e (fA_e (fA_30 (fA_su fA.rf (by omega) (by omega) (Nat.le_refl p)) (by omega)) (by omega)) (by omega)) (by omega)), (show upd (upd (r1 30) 14 (nI p)) 28 (nI lev) 14 = _ from (by rw [upd_n (by omega), upd_s])), (show upd (upd (r1 30) 14 (nI p)) 28 (nI lev) 28 = _ from upd_s), ?_, ?_⟩
              · show upd (r1 51) x (r 51 x) = r 51
                rw [h8]
                exact upd_back
              · show upd (r1 52) y (r 52 y) = r 52
                rw [h9']
                exact upd_back
          · refine Or.inr ⟨?_, r1, h2, fb.tr (Nat.le_succ p) h3⟩
            rw [show lk c d (upd (r 51) x (nI lev)) (upd (r 52) y (nI lev)) (lev + 1) a b = false from h1]; rfl
        · rw [decide_eq_false h9] at el ⊢
          exact Or.inr ⟨rfl, la_stop hM ht hu (by omega) (by decide) c6 E el⟩
      · intro x y a b a' b' hx hy ha hb ha' hb' c6 c6' c8 c8' c10 c11 c10' c11' q1 q2 q3 q4
        have dpa := dp_pos hM (t := a) (by omega)
        rw [lk_k4 c6 c6' c8 c8' hx hy c10 c10' c11 c11' (by omega) (by omega) (by omega) (by omega)]
        have el : lh c (r 51) (r 52) t u = true := by
          unfold lh
          rw [if_pos h6, c6, if_neg (by decide), if_neg (by decide), if_neg (by decide)]
        have e0 := la_push hM ht hu (by omega) (by decide) c6 (by decide) E (fun _ => el) (r39.trans c10) (s39.trans c10') (by decide)
        have f0 : fA p r (su r 44 p (nI (0 + 1))) := fA_su fA.rf (by omega) (by omega) (Nat.le_refl p)
        rcases la_child ih (t := t) (u := u) (k := 0) (lev := lev) (Tm_A f0 hM) (by omega) (by omega) (by omega) (by omega) (show r 43 p = nI t from E.2.1) (show r 49 p = nI u from E.2.2.1) (show upd (r 44) p (nI (0 + 1)) p = _ from upd_s) h28 (by omega) e0 with ⟨h1, r1, h2, h3, h5, h7, h8, h9⟩ | ⟨h1, r1, h2, h3⟩
        · have F1 := f0.tr (Nat.le_succ p) h3
          have hM1 := Tm_A F1 hM
          have e1 := la_bind hM1 ht hu (by omega) (Or.inr rfl) c6 (by decide) h5 (fun q => by omega) (show r1 39 (3 * t + 1) = nI b from (by rw [F1.1 39 (by omega) (by omega)]; exact r39b.trans c11)) (show r1 39 (3 * u + 1) = nI b' from (by rw [F1.1 39 (by omega) (by omega)]; exact s39b.trans c11')) hx hy c8 c8' h7
          have fb : fA p r1 (bndA (su r1 44 p (nI (0 + 1 + 1))) p x y lev) := fA_30 (fA_e (fA_e (fA_su (fA_su (fA_su fA.rf (by omega) (by omega) (Nat.le_refl p)) (by omega) (by omega) (Nat.le_refl p)) (by omega) (by omega) (Nat.le_refl p)) (by omega)) (by omega)) (by omega)
          have l1 : lk c d (r 51) (r 52) lev a a' = true := h1
          have v51 : (bndA (su r1 44 p (nI (0 + 1 + 1))) p x y lev) 51 = upd (r 51) x (nI lev) := by
            show upd (r1 51) x (nI lev) = _
            rw [h8]; rfl
          have v52 : (bndA (su r1 44 p (nI (0 + 1 + 1))) p x y lev) 52 = upd (r 52) y (nI lev) := by
            show upd (r1 52) y (nI lev) = _
            rw [h9]; rfl
          have H := la_child ih (t := t) (u := u) (k := 0 + 1) (lev := lev + 1) (a := b) (b := b') (Tm_A fb hM1) (by omega) (by omega) (by omega) (by omega) (show r1 43 p = nI t from h5.2.1) (show r1 49 p = nI u from h5.2.2.1) (show upd (r1 44) p (nI (0 + 1 + 1)) p = _ from upd_s) (show upd (r1 30) 28 (nI (lev + 1)) 28 = _ from upd_s) (by omega) (h2.trans e1)
          rw [v51, v52] at H
          rcases H with ⟨g1, r2, g2, g3, g5, g7, g8, g9⟩ | ⟨g1, r2, g2, g3⟩
          · refine Or.inl ⟨by rw [l1, g1]; rfl, ?_⟩
            have F := (F1.tr (Nat.le_refl p) fb).tr (Nat.le_succ p) g3
            have e2 := la_popB (Tm_A F hM) ht hu (by omega) (Or.inr rfl) c6 g5 hx hy c8 c8' g7 (show r2 45 p = r1 51 x from (g3.2.2 45 (by omega) (by omega) p (by omega)).trans (show upd (r1 45) p (r1 51 x) p = _ from upd_s)) (show r2 46 p = r1 52 y from (g3.2.2 46 (by omega) (by omega) p (by omega)).trans (show upd (r1 46) p (r1 52 y) p = _ from upd_s))
            refine ⟨_, g2.trans e2, F.tr (Nat.le_refl p) (fA_30 (fA_e (fA_e (fA_30 (fA_su fA.rf (by omega) (by omega) (Nat.le_refl p)) (by omega)) (by omega)) (by omega)) (by omega)), (show upd (upd (r2 30) 14 (nI p)) 28 (nI lev) 14 = _ from (by rw [upd_n (by omega), upd_s])), (show upd (upd (r2 30) 14 (nI p)) 28 (nI lev) 28 = _ from upd_s), ?_, ?_⟩
            · show upd (r2 51) x (r1 51 x) = r 51
              rw [g8, h8]
              exact upd_back
            · show upd (r2 52) y (r1 52 y) = r 52
              rw [g9, h9]
              exact upd_back
          · exact Or.inr ⟨by rw [l1, g1]; rfl, r2, g2, (F1.tr (Nat.le_refl p) fb).tr (Nat.le_succ p) g3⟩
        · refine Or.inr ⟨?_, r1, h2, f0.tr (Nat.le_succ p) h3⟩
          rw [show lk c d (r 51) (r 52) lev a a' = false from h1]; rfl
      · intro k a b a' b' hk ha hb ha' hb' c6 c6' c10 c11 c12 c10' c11' c12' q1 q2 q3 q4
        have dpa := dp_pos hM (t := a) (by omega)
        rw [lk_k35 hk c6 c6' c10 c10' c11 c11' (by omega) (by omega) (by omega) (by omega)]
        have hk7 : k < 7 := by omega
        have hkp : kP k = 2 := by rcases hk with rfl | rfl <;> rfl
        have hkn : ¬ (k = 2 ∨ k = 4) := by omega
        have el : lh c (r 51) (r 52) t u = true := by
          unfold lh
          rw [if_pos h6, c6, if_neg (by rcases hk with rfl | rfl <;> decide), if_neg (by rcases hk with rfl | rfl <;> decide), if_neg (by rcases hk with rfl | rfl <;> decide)]
        have e0 := la_push hM ht hu (by omega) hk7 c6 (by omega) E (fun _ => el) (r39.trans c10) (s39.trans c10') (fun q => hkn q.1)
        have f0 : fA p r (su r 44 p (nI (0 + 1))) := fA_su fA.rf (by omega) (by omega) (Nat.le_refl p)
        rcases la_child ih (t := t) (u := u) (k := 0) (lev := lev) (Tm_A f0 hM) (by omega) (by omega) (by omega) (by omega) (show r 43 p = nI t from E.2.1) (show r 49 p = nI u from E.2.2.1) (show upd (r 44) p (nI (0 + 1)) p = _ from upd_s) h28 (by omega) e0 with ⟨h1, r1, h2, h3, h5, h7, h8, h9⟩ | ⟨h1, r1, h2, h3⟩
        · have F1 := f0.tr (Nat.le_succ p) h3
          have hM1 := Tm_A F1 hM
          have l1 : lk c d (r 51) (r 52) lev a a' = true := h1
          have e1 := la_push hM1 ht hu (by omega) hk7 c6 (by omega) h5 (fun q => by omega) (show r1 39 (3 * t + 1) = nI b from (by rw [F1.1 39 (by omega) (by omega)]; exact r39b.trans c11)) (show r1 39 (3 * u + 1) = nI b' from (by rw [F1.1 39 (by omega) (by omega)]; exact s39b.trans c11')) (fun q => hkn q.1)
          have f1 : fA p r1 (su r1 44 p (nI (0 + 1 + 1))) := fA_su fA.rf (by omega) (by omega) (Nat.le_refl p)
          have H := la_child ih (t := t) (u := u) (k := 0 + 1) (lev := lev) (a := b) (b := b') (Tm_A f1 hM1) (by omega) (by omega) (by omega) (by omega) (show r1 43 p = nI t from h5.2.1) (show r1 49 p = nI u from h5.2.2.1) (show upd (r1 44) p (nI (0 + 1 + 1)) p = _ from upd_s) h7 (by omega) (h2.trans e1)
          rw [show (su r1 44 p (nI (0 + 1 + 1))) 51 = r 51 from h8, show (su r1 44 p (nI (0 + 1 + 1))) 52 = r 52 from h9] at H
          rcases H with ⟨g1, r2, g2, g3, g5, g7, g8, g9⟩ | ⟨g1, r2, g2, g3⟩
          · refine Or.inl ⟨by rw [l1, g1]; rfl, ?_⟩
            have F := (F1.tr (Nat.le_refl p) f1).tr (Nat.le_succ p) g3
            have e2 := la_pop (p := p) (Tm_A F hM) ht hu (by omega) hk7 c6 (by rw [hkp]; exact g5) hkn
            rw [if_neg (by omega)] at e2
            exact ⟨_, g2.trans e2, F.tr (Nat.le_refl p) (fA_30 (fA_su fA.rf (by omega) (by omega) (Nat.le_refl p)) (by omega)), by rw [su_row, upd_s], by rw [su_row, upd_n (by omega)]; exact g7, g8, g9⟩
          · exact Or.inr ⟨by rw [l1, g1]; rfl, r2, g2, (F1.tr (Nat.le_refl p) f1).tr (Nat.le_succ p) g3⟩
        · refine Or.inr ⟨?_, r1, h2, f0.tr (Nat.le_succ p) h3⟩
          rw [show lk c d (r 51) (r 52) lev a a' = false from h1]; rfl
      · intro a b e a' b' e' ha hb he ha' hb' he' c6 c6' c10 c11 c12 c10' c11' c12' q1 q2 q3 q4
        have dpa := dp_pos hM (t := a) (by omega)
        rw [lk_k6 c6 c6' c10 c10' c11 c11' c12 c12' (by omega) (by omega) (by omega) (by omega) (by omega) (by omega)]
        have el : lh c (r 51) (r 52) t u = true := by
          unfold lh
          rw [if_pos h6, c6, if_neg (by decide), if_neg (by decide), if_neg (by decide)]
        have e0 := la_push hM ht hu (by omega) (by decide) c6 (by decide) E (fun _ => el) (r39.trans c10) (s39.trans c10') (by decide)
        have f0 : fA p r (su r 44 p (nI (0 + 1))) := fA_su fA.rf (by omega) (by omega) (Nat.le_refl p)
        rcases la_child ih (t := t) (u := u) (k := 0) (lev := lev) (Tm_A f0 hM) (by omega) (by omega) (by omega) (by omega) (show r 43 p = nI t from E.2.1) (show r 49 p = nI u from E.2.2.1) (show upd (r 44) p (nI (0 + 1)) p = _ from upd_s) h28 (by omega) e0 with ⟨h1, r1, h2, h3, h5, h7, h8, h9⟩ | ⟨h1, r1, h2, h3⟩
        · have F1 := f0.tr (Nat.le_succ p) h3
          have hM1 := Tm_A F1 hM
          have l1 : lk c d (r 51) (r 52) lev a a' = true := h1
          have e1 := la_push hM1 ht hu (by omega) (by decide) c6 (by decide) h5 (fun q => by omega) (show r1 39 (3 * t + 1) = nI b from (by rw [F1.1 39 (by omega) (by omega)]; exact r39b.trans c11)) (show r1 39 (3 * u + 1) = nI b' from (by rw [F1.1 39 (by omega) (by omega)]; exact s39b.trans c11')) (by decide)
          have f1 : fA p r1 (su r1 44 p (nI (0 + 1 + 1))) := fA_su fA.rf (by omega) (by omega) (Nat.le_refl p)
          have H := la_child ih (t := t) (u := u) (k := 0 + 1) (lev := lev) (a := b) (b := b') (Tm_A f1 hM1) (by omega) (by omega) (by omega) (by omega) (show r1 43 p = nI t from h5.2.1) (show r1 49 p = nI u from h5.2.2.1) (show upd (r1 44) p (nI (0 + 1 + 1)) p = _ from upd_s) h7 (by omega) (h2.trans e1)
          rw [show (su r1 44 p (nI (0 + 1 + 1))) 51 = r 51 from h8, show (su r1 44 p (nI (0 + 1 + 1))) 52 = r 52 from h9] at H
          rcases H with ⟨g1, r2, g2, g3, g5, g7, g8, g9⟩ | ⟨g1, r2, g2, g3⟩
          · have F2 := (F1.tr (Nat.le_refl p) f1).tr (Nat.le_succ p) g3
            have hM2 := Tm_A F2 hM
            have e2 := la_push hM2 ht hu (by omega) (by decide) c6 (by decide) g5 (fun q => by omega) (show r2 39 (3 * t + 2) = nI e from (by rw [F2.1 39 (by omega) (by omega)]; exact r39c.trans c12)) (show r2 39 (3 * u + 2) = nI e' from (by rw [F2.1 39 (by omega) (by omega)]; exact s39c.trans c12')) (by decide)
            have f2 : fA p r2 (su r2 44 p (nI (0 + 1 + 1 + 1))) := fA_su fA.rf (by omega) (by omega) (Nat.le_refl p)
            have H := la_child ih (t := t) (u := u) (k := 0 + 1 + 1) (lev := lev) (a := e) (b := e') (Tm_A f2 hM2) (by omega) (by omega) (by omega) (by omega) (show r2 43 p = nI t from g5.2.1) (show r2 49 p = nI u from g5.2.2.1) (show upd (r2 44) p (nI (0 + 1 + 1 + 1)) p = _ from upd_s) g7 (by omega) (g2.trans e2)
            rw [show (su r2 44 p (nI (0 + 1 + 1 + 1))) 51 = r 51 from g8, show (su r2 44 p (nI (0 + 1 + 1 + 1))) 52 = r 52 from g9] at H
            rcases H with ⟨i1, r3, i2, i3, i5, i7, i8, i9⟩ | ⟨i1, r3, i2, i3⟩
            · refine Or.inl ⟨by rw [l1, g1, i1]; rfl, ?_⟩
              have F := (F2.tr (Nat.le_refl p) f2).tr (Nat.le_succ p) i3
              have e3 := la_pop (Tm_A F hM) ht hu (by omega) (by decide) c6 i5 (by decide)
              rw [if_neg (by decide)] at e3
              exact ⟨_, i2.trans e3, F.tr (Nat.le_refl p) (fA_30 (fA_su fA.rf (by omega) (by omega) (Nat.le_refl p)) (by omega)), by rw [su_row, upd_s], by rw [su_row, upd_n (by omega)]; exact i7, i8, i9⟩
            · exact Or.inr ⟨by rw [l1, g1, i1]; rfl, r3, i2, (F2.tr (Nat.le_refl p) f2).tr (Nat.le_succ p) i3⟩
          · exact Or.inr ⟨by rw [l1, g1]; rfl, r2, g2, (F1.tr (Nat.le_refl p) f1).tr (Nat.le_succ p) g3⟩
        · refine Or.inr ⟨?_, r1, h2, f0.tr (Nat.le_succ p) h3⟩
          rw [show lk c d (r 51) (r 52) lev a a' = false from h1]; rfl
    · obtain ⟨K, hK7, hK⟩ := hKt
      refine Or.inr ⟨lk_ne h6, la_stop hM ht hu (by omega) hK7 hK E ?_⟩
      unfold lh
      rw [if_neg h6]
