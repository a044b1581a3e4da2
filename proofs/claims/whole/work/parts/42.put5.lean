theorem x_into_m {f x u : Nat} {c : jS} (hf : 1 ≤ f) (hx : x < 26) : xPutter_into f c (-2) (nI x) (nI u) = some (-2, c) := by
  obtain ⟨f', rfl⟩ : ∃ f', f = f' + 1 := ⟨f - 1, by omega⟩
  rw [xPutter_into_s]
  unfold b_xPutter_into
  rw [x_isFree_m hx, ob_s, if_pos rfl]
theorem fr_keep {n t x : Nat} {r r' : jS} (h : AgM n r r') (ht : t < n) (hx : x < 26) : frN r' t x = frN r t x := by unfold frN; rw [h.2.2 _ (by omega)]
theorem nne3 {t : Nat} (h : t < 2 ^ 31) : nI t ≠ (-3 : Int32) := nI_ne h (by decide)
set_option maxHeartbeats 2000000 in
theorem put_sim (T : Nat) : ∀ d, Put T d
  | 0 => fun f t x u c r n p v4 hT hM ht hx hu hd => absurd (dp_pos hM ht) (by omega)
  | d + 1 => by
    have ih := put_sim T d
    intro f t x u c r n p v4 hT hM ht hx hu hd hf hp h14 hg
    obtain ⟨f, rfl⟩ : ∃ f', f = f' + 3 := ⟨f - 3, by omega⟩
    have h4 := hM.2.2.1
    have dpu := dp_pos hM hu
    have dpt := dp_pos hM ht
    obtain ⟨hC, k, lx, ty, oa, ob', od, hN⟩ := hM.2.2.2 t ht
    obtain ⟨⟨r35, r36, r37, r38, r39, r39b, r39c, r40, r41⟩, -⟩ := hC
    obtain ⟨hs, ⟨c6, c8, c9, c10, c11, c12, -⟩, ⟨-, hdp⟩, hfq, -⟩ := id hN
    have hE0 : EnP (pshP r p (nI t) (nI x) (nI u)) p t 0 (-2) (-2) (-2) (nI x) (nI u) := EnP_psh
    have am0 : AgM n r (pshP r p (nI t) (nI x) (nI u)) := AgM_pshP AgM.rf
    have hM0 : Tm c (pshP r p (nI t) (nI x) (nI u)) T n := Tm_r am0 (pshP_5 (by omega)) hM
    have fs0 : fS p r (pshP r p (nI t) (nI x) (nI u)) := fS_pshP fS.rf (Nat.le_refl p)
    have hT0 : Ty c (pshP r p (nI t) (nI x) (nI u)) T := Ty_S fX.rf fs0 hT
    have hN0 : Nod c (pshP r p (nI t) (nI x) (nI u)) T t k lx ty oa ob' od := Nod_keep AgX.rf am0 fX.rf ht hN
    have hg0 : (pshP r p (nI t) (nI x) (nI u)) 30 22 ≠ -3 := by rw [pshP_5 (by omega)]; exact hg
    have hp9 : p < 90 := by omega
    have fe : frN (pshP r p (nI t) (nI x) (nI u)) t x = frN r t x := rfl
    rw [xPutter_into_s]
    unfold b_xPutter_into
    rw [x_isFree hM ht hx, ob_s, x_kindOf_t hM.1 h4 ht, ob_s, c6]
    by_cases hfr : 0 < frN r t x
    · rw [if_pos hfr, if_neg n10]
      have wrap : ∀ {X : Option (Int32 × jS)} {c1 r1 : jS} {n1 : Nat} {Q : jS → Nat → Prop}, fX c c1 → n ≤ n1 → AgX n c c1 → AgM n r r1 → fS p r r1 → m_putOf_L23 v4 (pshP r p (nI t) (nI x) (nI u)) = m_putOf_L23 v4 r1 → (∀ c' t', AgX n1 c1 c' → Q c' t' → dpN c' t' + 1 ≤ dpN c t + dpN c u ∧ (t' = t ∨ t' = u ∨ n ≤ t')) →
          (∃ (v : Int32) (c' r' : jS) (n' : Nat), X = some (v, c') ∧ fX c1 c' ∧ n1 ≤ n' ∧ Tm c' r' T n' ∧ AgX n1 c1 c' ∧ AgM n1 r1 r' ∧ fS p r1 r' ∧ m_putOf_L23 v4 r1 = m_putOf_L23 v4 r' ∧ ((v = -3 ∧ r' 30 22 = -3) ∨ ∃ t', t' < n' ∧ v = nI t' ∧ r' 30 14 = nI p ∧ r' 30 22 = nI t' ∧ Q c' t')) →
          ∃ (v : Int32) (c' r' : jS) (n' : Nat), X = some (v, c') ∧ fX c c' ∧ n ≤ n' ∧ Tm c' r' T n' ∧ AgX n c c' ∧ AgM n r r' ∧ fS p r r' ∧ m_putOf_L23 v4 (pshP r p (nI t) (nI x) (nI u)) = m_putOf_L23 v4 r' ∧ ((v = -3 ∧ r' 30 22 = -3) ∨ ∃ t', t' < n' ∧ v = nI t' ∧ r' 30 14 = nI p ∧ r' 30 22 = nI t' ∧ dpN c' t' + 1 ≤ dpN c t + dpN c u ∧ (t' = t ∨ t' = u ∨ n ≤ t')) := by
        intro X c1 r1 n1 Q a1 a2 a3 a4 a5 a6 a7 h
        obtain ⟨v, c', r', n', b1, b2, b3, b4, b5, b6, b7, b8, b9⟩ := h
        refine ⟨v, c', r', n', b1, a1.tr b2, by omega, b4, a3.tr a2 b5, a4.tr a2 b6, a5.tr (Nat.le_refl p) b7, a6.trans b8, ?_⟩
        rcases b9 with b9 | ⟨t', q1, q2, q3, q4, q5⟩
        · exact Or.inl b9
        · exact Or.inr ⟨t', q1, q2, q3, q4, a7 c' t' b5 q5⟩
      rcases shp_cases hs with ⟨rfl, rfl, rfl, rfl, rfl, rfl⟩ | ⟨rfl, y, hy, rfl, rfl, rfl, rfl, rfl⟩ | ⟨rfl, y, ty', a, hy, hty, ha, rfl, rfl, rfl, rfl, rfl⟩ | ⟨k3, a, b, ha, hb, rfl, rfl, rfl, rfl, rfl⟩ | ⟨rfl, y, a, b, hy, ha, hb, rfl, rfl, rfl, rfl, rfl⟩ | ⟨k3, a, b, ha, hb, rfl, rfl, rfl, rfl, rfl⟩ | ⟨k3, a, b, e, ha, hb, he, rfl, rfl, rfl, rfl, rfl⟩
      · have := hfq x hx
        simp [frq, oz] at this
        omega
      · -- a name
        rw [if_pos k11]
        refine ⟨nI u, c, su (su (su (pshP r p (nI t) (nI x) (nI u)) 44 p (nI 1)) 30 22 (nI u)) 30 14 (nI p), n, rfl, fX.rf, Nat.le_refl n, ?_, AgX.rf, ?_, ?_, ?_, Or.inr ⟨u, hu, rfl, by rw [su_row, upd_s], by rw [su_row, upd_n (by omega), su_row, upd_s], by omega, Or.inr (Or.inl rfl)⟩⟩
        · exact Tm_r (AgM_30 (AgM_30 (AgM_su AgM.rf (by omega)))) (by rw [su_row, upd_n (by omega), su_row, upd_n (by omega)]; rfl) hM0
        · exact AgM_30 (AgM_30 (AgM_su am0 (by omega)))
        · exact fS_30 (fS_30 (fS_su fs0 (by omega) (by omega) (Nat.le_refl p)) (by omega)) (by omega)
        · refine put_step hE0.1.1 hp9 hg0 ?_
          rw [pt_eq hM0 ht hE0 hp9 (by omega) hx c6, if_pos rfl, fe, if_pos hfr]
          unfold m_putTurn_P75
          rw [if_pos k11, gd_t (ix_nI (by omega) (by decide)), ltS, ltS, nI_clamp (by omega), show (su (pshP r p (nI t) (nI x) (nI u)) 44 p (nI (0 + 1))) 49 p = nI u from hE0.2.2, show (su (su (pshP r p (nI t) (nI x) (nI u)) 44 p (nI (0 + 1))) 30 22 (nI u)) 30 14 = nI (p + 1) from (by rw [su_row, upd_n (by omega)]; exact hE0.1.1), nI_pred]
      · -- a function
        have hda : dpN c a ≤ d := by simp [oz] at hdp; omega
        have dpa := dp_pos hM (t := a) (by omega)
        have dpt' : dpN c t = 1 + dpN c a := by simpa [oz] using hdp
        rw [if_neg (by decide), if_pos k22, xPutter_intoFunction_s]
        unfold b_xPutter_intoFunction
        rw [x_firstOf_t hM.1 h4 ht, ob_s, c10, x_letterOf_t hM.1 h4 ht, ob_s, c8]
        have hM1 : Tm c (su (pshP r p (nI t) (nI x) (nI u)) 44 p 1) T n := Tm_r (AgM_su AgM.rf (by omega)) rfl hM0
        have fs1 : fS p r (su (pshP r p (nI t) (nI x) (nI u)) 44 p 1) := fS_su fs0 (by omega) (by omega) (Nat.le_refl p)
        have am1 : AgM n r (su (pshP r p (nI t) (nI x) (nI u)) 44 p 1) := AgM_su am0 (by omega)
        have hb39 : r 39 (3 * t + bdy 2) = nI a := r39.trans c10
        obtain ⟨zv, w, c2, r2, n2, i1, i2, fx2, hn2, hM2, ax2, am2, fs2, el2, h2⟩ := body_sim ih (f := f) (v4 := v4) (r0 := pshP r p (nI t) (nI x) (nI u)) (A := -2) (B := -2) (s := 1) (b := a) (Ty_S fX.rf fs1 hT) hM1 ht hx hu (Nod_keep AgX.rf am1 fX.rf ht hN) (Or.inl rfl) hb39 ha hda (by omega) (by omega) (by omega) hE0.1.1 hg0 ⟨hE0.1.2.1, (show upd _ p 1 p = 1 from upd_s), hE0.1.2.2.2.1, hE0.1.2.2.2.2.1, hE0.2.1, hE0.2.2⟩ (fun q => by omega) (fun r' h => put_step hE0.1.1 hp9 hg0 ((bt_fun hM0 ht hE0 hp9 hx c6 (by rw [fe]; exact hfr)).trans h))
        rw [show xPutter_letterFor c (pv (some y)) (pv (some a)) (nI u) = some zv from i1, ob_s, ob_s, show xPutter_intoBody (f + 1) c (pv (some a)) (pv (some y)) zv (nI x) (nI u) = some (w, c2) from i2, bd_s]
        have hn24 := hM2.2.2.1
        rcases h2 with ⟨rfl, g2⟩ | ⟨b', z', hz', rfl, hb', rfl, g2a, g2b, E2, hd2⟩
        · rw [if_neg n3, bd_s]
          exact ⟨-3, c2, r2, n2, rfl, fx2, hn2, hM2, ax2, am1.tr (Nat.le_refl n) am2, fs1.tr (Nat.le_refl p) fs2, el2, Or.inl ⟨rfl, g2⟩⟩
        · rw [if_pos (nI_pos' (by omega))]
          have R := bind_fin (v4 := v4) (oa2 := some b') (ob2 := none) (Ty_S (p := p) fx2 (fs1.tr (Nat.le_refl p) fs2) hT) hM2 (by omega) hx (Nod_keep ax2 (am1.tr (Nat.le_refl n) am2) fx2 ht hN) (Or.inl rfl) (show r2 39 (3 * t + bdy 2) = nI a from ((am1.tr (Nat.le_refl n) am2).2.1 _ (by unfold bdy; simp; omega)).trans hb39) hp9 g2b g2a hb' hz' E2 ⟨by decide, rfl, lo_s hz', lo_s hty, lo_s hb', lo_n, lo_n⟩ (fun _ => rfl) (fun q => by omega)
          refine wrap fx2 hn2 ax2 (am1.tr (Nat.le_refl n) am2) (fs1.tr (Nat.le_refl p) fs2) el2 (Q := fun c' t' => dpN c' t' = 1 + max (oz (dpN c2) (some b')) (max (oz (dpN c2) none) (oz (dpN c2) none)) ∧ (t' = t ∨ n2 ≤ t')) (fun c' t' _ q => ?_) ?_
          · obtain ⟨q, q'⟩ := q
            simp [oz] at q
            exact ⟨by omega, by omega⟩
          · obtain ⟨v, c', r', n', e1, rest⟩ := R
            exact ⟨v, c', r', n', by rw [show xTerms_withParts c2 (nI t) (nI z') (nI b') (-2) (-2) = some (v, c') from e1, bd_s, bd_s], rest⟩
      all_goals try
        have hda : dpN c a ≤ d := by simp [oz] at hdp; omega
        have hdb : dpN c b ≤ d := by simp [oz] at hdp; omega
        have dpa := dp_pos hM (t := a) (by omega)
        have hk' : k = 3 ∨ k = 5 ∨ k = 6 := by omega
        have hf0 : 0 < frN (pshP r p (nI t) (nI x) (nI u)) t x := by rw [fe]; exact hfr
        have q1 : ¬ nI k = (1 : Int32) := fun e => by have := (nI_eq (b := 1) (by omega) (by decide)).mp e; omega
        have q2 : ¬ nI k = (2 : Int32) := fun e => by have := (nI_eq (b := 2) (by omega) (by decide)).mp e; omega
        have q4 : ¬ nI k = (4 : Int32) := fun e => by have := (nI_eq (b := 4) (by omega) (by decide)).mp e; omega
        rw [if_neg q1, if_neg q2, if_neg q4, xPutter_intoParts_s]
        unfold b_xPutter_intoParts
        rw [x_firstOf_t hM.1 h4 ht, ob_s, c10]
        obtain ⟨v1, c1, r1, n1, e1, fx1, hn1, hM1, ax1, am1, fs1, el1, h1⟩ := put_part ih (f := f + 1) (v4 := v4) hT0 hM0 ht hE0 hk' c6 (by rcases hk' with rfl | rfl | rfl <;> decide) hx hu hf0 (show (pshP r p (nI t) (nI x) (nI u)) 39 (3 * t + 0) = nI a from r39.trans c10) (by omega) hda (by omega) (by omega) (by omega) hg0
        rw [show xPutter_into (f + 1) c (pv (some a)) (nI x) (nI u) = some (v1, c1) from e1, bd_s]
        have A1 := am0.tr (Nat.le_refl n) am1
        have S1 := fs0.tr (Nat.le_refl p) fs1
        rcases h1 with ⟨rfl, g1⟩ | ⟨t1, ht1, rfl, g1, hd1, hE1⟩
        · rw [if_pos rfl, bd_s]
          exact ⟨-3, c1, r1, n1, rfl, fx1, hn1, hM1, ax1, A1, S1, el1, Or.inl ⟨rfl, g1⟩⟩
        have hn14 := hM1.2.2.1
        have hg1 : r1 30 22 ≠ -3 := by rw [g1]; exact nne3 (by omega)
        have hT1 := Ty_S fx1 fs1 hT0
        have hN1 := Nod_keep ax1 am1 fx1 ht hN0
        have hf1 : 0 < frN r1 t x := by rw [fr_keep A1 ht hx]; exact hfr
        obtain ⟨v3, c3, r3, n3', e3, fx3, hn3, hM3, ax3, am3, fs3, el3, h3⟩ := put_part ih (f := f + 1) (v4 := v4) hT1 hM1 (by omega) hE1 hk' (by rw [ax1 6 (by omega) (by omega) t ht]; exact c6) (by rcases hk' with rfl | rfl | rfl <;> decide) hx (by omega) hf1 (show r1 39 (3 * t + 1) = nI b from (A1.2.1 _ (by omega)).trans (r39b.trans c11)) (by omega) (by rw [dp_keep ax1 (by omega)]; exact hdb) (by omega) (by omega) (by omega) hg1
        rw [if_neg (nne3 (by omega)), x_secondOf_t hM1.1 hn14 (by omega), ob_s, ax1 11 (by omega) (by omega) t ht, c11, show xPutter_into (f + 1) c1 (pv (some b)) (nI x) (nI u) = some (v3, c3) from e3, bd_s]
        have A3 := A1.tr hn1 am3
        have X3 := ax1.tr hn1 ax3
        have S3 := S1.tr (Nat.le_refl p) fs3
        rcases h3 with ⟨rfl, g3⟩ | ⟨t3, ht3, rfl, g3, hd3, hE3⟩
        · rw [if_pos rfl, bd_s]
          exact ⟨-3, c3, r3, n3', rfl, fx1.tr fx3, by omega, hM3, X3, A3, S3, el1.trans el3, Or.inl ⟨rfl, g3⟩⟩
        have hn34 := hM3.2.2.1
        have hg3 : r3 30 22 ≠ -3 := by rw [g3]; exact nne3 (by omega)
        have hT3 := Ty_S fx3 fs3 hT1
        have hN3 := Nod_keep ax3 am3 fx3 (by omega) hN1
        have hf3 : 0 < frN r3 t x := by rw [fr_keep A3 ht hx]; exact hfr
        have du1 : dpN c1 u = dpN c u := dp_keep ax1 hu
        have da1 : dpN c1 b = dpN c b := dp_keep ax1 (by omega)
        have dt1 : dpN c3 t1 = dpN c1 t1 := dp_keep ax3 ht1
        rw [if_neg (nne3 (by omega)), x_thirdOf_t hM3.1 hn34 (by omega), ob_s, X3 12 (by omega) (by omega) t ht, c12]
      · subst k3
        rw [show pv none = (-2 : Int32) from rfl, x_into_m (by omega) hx, bd_s, if_neg m23, x_letterOf_t hM3.1 hn34 (by omega), ob_s, X3 8 (by omega) (by omega) t ht, c8]
        have R := parts_fin (v4 := v4) (oa' := some t1) (ob2 := some t3) (od' := none) hT3 hM3 (by omega) hN3 (Or.inl rfl) ⟨by decide, rfl, lo_n, lo_n, lo_s (by omega), lo_s ht3, lo_n⟩ hE3 hx hf3 hp9 hg3 g1 g3 rfl
        refine wrap (n1 := n3') (fx1.tr fx3) (by omega) X3 A3 S3 (el1.trans el3) (Q := fun c' t' => dpN c' t' = 1 + max (oz (dpN c3) (some t1)) (max (oz (dpN c3) (some t3)) (oz (dpN c3) none)) ∧ (t' = t ∨ n3' ≤ t')) (fun c' t' _ q => ?_) ?_
        · obtain ⟨q, q'⟩ := q
          simp [oz] at q hdp
          exact ⟨by omega, by omega⟩
        · obtain ⟨v, c', r', n', e1, rest⟩ := R
          exact ⟨v, c', r', n', by rw [show xTerms_withParts c3 (nI t) (pv none) (nI t1) (nI t3) (-2) = some (v, c') from e1, bd_s, bd_s], rest⟩
      · -- a let
        have hda : dpN c a ≤ d := by simp [oz] at hdp; omega
        have hdb : dpN c b ≤ d := by simp [oz] at hdp; omega
        have dpa := dp_pos hM (t := a) (by omega)
        rw [if_neg (by decide), if_neg (by decide), if_pos k44, xPutter_intoLet_s]
        unfold b_xPutter_intoLet
        rw [x_letterOf_t hM.1 h4 ht, ob_s, c8, x_secondOf_t hM.1 h4 ht, ob_s, c11, x_firstOf_t hM.1 h4 ht, ob_s, c10]
        have am1 : AgM n r (su (pshP r p (nI t) (nI x) (nI u)) 44 p 1) := AgM_su am0 (by omega)
        have fs1 : fS p r (su (pshP r p (nI t) (nI x) (nI u)) 44 p 1) := fS_su fs0 (by omega) (by omega) (Nat.le_refl p)
        have hM1 : Tm c (su (pshP r p (nI t) (nI x) (nI u)) 44 p 1) T n := Tm_r (AgM_su AgM.rf (by omega)) rfl hM0
        have E1 : Eb (su (pshP r p (nI t) (nI x) (nI u)) 44 p 1) p t 1 (-2) (-2) (nI x) (nI u) := ⟨hE0.1.2.1, (show upd _ p 1 p = 1 from upd_s), hE0.1.2.2.2.1, hE0.1.2.2.2.2.1, hE0.2.1, hE0.2.2⟩
        obtain ⟨v1, c1, r1, n1, e1, fx1, hn1, hM2, ax1, am2, fs2, el1, h1⟩ := ih (f + 1) a x u c _ n (p + 1) v4 (Ty_S fX.rf fs1 hT) hM1 (by omega) hx hu hda (by omega) (by omega) hE0.1.1 hg0
        have el0 := (put_step (v4 := v4) hE0.1.1 hp9 hg0 (bt_let0 hM0 ht hE0 (by omega) hx c6 (by rw [fe]; exact hfr) (show (pshP r p (nI t) (nI x) (nI u)) 39 (3 * t) = nI a from r39.trans c10))).trans el1
        rw [show xPutter_into (f + 1) c (pv (some a)) (nI x) (nI u) = some (v1, c1) from e1, bd_s]
        have A1 := am1.tr (Nat.le_refl n) am2
        have S1 := fs1.tr (Nat.le_succ p) fs2
        have hn14 := hM2.2.2.1
        rcases h1 with ⟨rfl, g1⟩ | ⟨t1, ht1, rfl, g1a, g1b, hd1, -⟩
        · rw [if_neg n3, bd_s]
          exact ⟨-3, c1, r1, n1, rfl, fx1, hn1, hM2, ax1, A1, S1, el0, Or.inl ⟨rfl, g1⟩⟩
        rw [if_pos (nI_pos' (by omega))]
        obtain ⟨m43, m44, m45, m46, m48, m49⟩ := Eb_keep fs2 E1
        have hE2 : EnP r1 p t 1 (-2) (-2) (r1 47 p) (nI x) (nI u) := ⟨⟨g1a, m43, m44, m45, m46, rfl⟩, m48, m49⟩
        have hg1 : r1 30 22 ≠ -3 := by rw [g1b]; exact nne3 (by omega)
        have c6' : c1 6 t = nI 4 := (ax1 6 (by omega) (by omega) t ht).trans c6
        have c8' : c1 8 t = nI y := (ax1 8 (by omega) (by omega) t ht).trans c8
        have turn2 := bt_let1 hM2 (by omega) hE2 hp9 hx c6'
        rw [g1b] at turn2
        have am3 : AgM n1 r1 (su (su r1 44 p 2) 45 p (nI t1)) := AgM_su (AgM_su AgM.rf (by omega)) (by omega)
        have fs3 : fS p r1 (su (su r1 44 p 2) 45 p (nI t1)) := fS_su (fS_su fS.rf (by omega) (by omega) (Nat.le_refl p)) (by omega) (by omega) (Nat.le_refl p)
        have hM3 : Tm c1 (su (su r1 44 p 2) 45 p (nI t1)) T n1 := Tm_r am3 rfl hM2
        have hT3 : Ty c1 (su (su r1 44 p 2) 45 p (nI t1)) T := Ty_S (p := p) fx1 (S1.tr (Nat.le_refl p) fs3) hT
        have A3 : AgM n r (su (su r1 44 p 2) 45 p (nI t1)) := A1.tr hn1 am3
        have S3 : fS p r (su (su r1 44 p 2) 45 p (nI t1)) := S1.tr (Nat.le_refl p) fs3
        have hN3 : Nod c1 (su (su r1 44 p 2) 45 p (nI t1)) T t 4 (some y) none (some a) (some b) none := Nod_keep ax1 A3 fx1 ht hN
        have hb39 : (su (su r1 44 p 2) 45 p (nI t1)) 39 (3 * t + bdy 4) = nI b := (A3.2.1 _ (by unfold bdy; simp; omega)).trans (r39b.trans c11)
        have E3 : Eb (su (su r1 44 p 2) 45 p (nI t1)) p t 2 (nI t1) (-2) (nI x) (nI u) := ⟨m43, (show upd (r1 44) p 2 p = 2 from upd_s), (show upd (r1 45) p (nI t1) p = _ from upd_s), m46, m48, m49⟩
        have fb : frN (su (su r1 44 p 2) 45 p (nI t1)) b x = frN r1 b x := rfl
        have du1 : dpN c1 u = dpN c u := dp_keep ax1 hu
        have db1 : dpN c1 b = dpN c b := dp_keep ax1 (by omega)
        have dbp := dp_pos hM (t := b) (by omega)
        by_cases hc : y = x ∨ ¬ 0 < frN r1 b x
        · -- the body stays
          have P0 := pb0 (b := b) hM3 (by omega) hp9 (by decide) c6' c8' hy hx (by omega) m48 m49 hb39
          rw [fb, if_pos ⟨rfl, hc⟩] at P0
          have am4 : AgM n1 r1 (su (su (su (su (su r1 44 p 2) 45 p (nI t1)) 46 p (nI y)) 44 p 13) 30 22 (nI b)) := AgM_30 (AgM_su (AgM_su am3 (by omega)) (by omega))
          have fs4 : fS p r1 (su (su (su (su (su r1 44 p 2) 45 p (nI t1)) 46 p (nI y)) 44 p 13) 30 22 (nI b)) := fS_30 (fS_su (fS_su fs3 (by omega) (by omega) (Nat.le_refl p)) (by omega) (by omega) (Nat.le_refl p)) (by omega)
          have hM4 : Tm c1 (su (su (su (su (su r1 44 p 2) 45 p (nI t1)) 46 p (nI y)) 44 p 13) 30 22 (nI b)) T n1 := Tm_r am4 (by rw [su_row, upd_n (by omega)]; rfl) hM2
          have el2 := put_step (v4 := v4) g1a hp9 hg1 (turn2.trans P0)
          have A4 := A1.tr hn1 am4
          have S4 := S1.tr (Nat.le_refl p) fs4
          have R := bind_fin (v4 := v4) (g := b) (z := y) (oa2 := some t1) (ob2 := some b) (Ty_S (p := p) fx1 S4 hT) hM4 (by omega) hx (Nod_keep ax1 A4 fx1 ht hN) (Or.inr rfl) (b := b) (show (su (su (su (su (su r1 44 p 2) 45 p (nI t1)) 46 p (nI y)) 44 p 13) 30 22 (nI b)) 39 (3 * t + bdy 4) = nI b from hb39) hp9 (show (su (su (su (su (su r1 44 p 2) 45 p (nI t1)) 46 p (nI y)) 44 p 13) 30 22 (nI b)) 30 14 = nI (p + 1) from (by rw [su_row, upd_n (by omega)]; exact g1a)) (by rw [su_row, upd_s]) (by omega) hy (A := nI t1) ⟨m43, (show upd (upd (r1 44) p 2) p 13 p = 13 from upd_s), (show upd (r1 45) p (nI t1) p = _ from upd_s), (show upd (r1 46) p (nI y) p = _ from upd_s), m48, m49⟩ ⟨by decide, rfl, lo_s hy, lo_n, lo_s ht1, lo_s (by omega), lo_n⟩ (fun q => by omega) (fun _ => ⟨rfl, rfl⟩)
          have fin : ∃ (v : Int32) (c' r' : jS) (n' : Nat), xTerms_withParts c1 (nI t) (nI y) (nI t1) (nI b) (-2) = some (v, c') ∧ _ := R
          obtain ⟨v, c', r', n', w1, rest⟩ := fin
          refine wrap fx1 hn1 ax1 A4 S4 (el0.trans el2) (Q := fun c' t' => dpN c' t' = 1 + max (oz (dpN c1) (some t1)) (max (oz (dpN c1) (some b)) (oz (dpN c1) none)) ∧ (t' = t ∨ n1 ≤ t')) (fun c' t' _ q => ?_) ⟨v, c', r', n', ?_, rest⟩
          · obtain ⟨q, q'⟩ := q
            simp [oz] at q hdp
            exact ⟨by omega, by omega⟩
          · show bd (if nI y = nI x then _ else _) _ = _
            by_cases hyx : y = x
            · rw [if_pos (show nI y = nI x from by rw [hyx]), show xTerms_withParts c1 (nI t) (pv (some y)) (nI t1) (pv (some b)) (-2) = some (v, c') from w1, bd_s, bd_s]
            · have hnf : ¬ 0 < frN r1 b x := hc.resolve_left hyx
              rw [if_neg (fun e => hyx ((nI_eq (by omega) (by omega)).mp e)), show xTerms_isFree c1 (pv (some b)) (nI x) = _ from x_isFree hM2 (by omega) hx, ob_s, if_neg hnf, if_pos rfl, show xTerms_withParts c1 (nI t) (pv (some y)) (nI t1) (pv (some b)) (-2) = some (v, c') from w1, bd_s, bd_s]
        · have hyx : ¬ y = x := fun q => hc (Or.inl q)
          have hbf : 0 < frN r1 b x := Decidable.byContradiction (fun q => hc (Or.inr q))
          obtain ⟨zv, w, c2, r2, n2, i1, i2, fx2, hn2, hM4, ax2, am4, fs4, el2, h2⟩ := body_sim ih (f := f) (v4 := v4) (r0 := r1) (A := nI t1) (B := -2) (s := 2) (b := b) hT3 hM3 (by omega) hx (by omega) hN3 (Or.inr rfl) hb39 hb (by rw [db1]; exact hdb) (by omega) (by omega) (by omega) (show (su (su r1 44 p 2) 45 p (nI t1)) 30 14 = nI (p + 1) from g1a) (show (su (su r1 44 p 2) 45 p (nI t1)) 30 22 ≠ -3 from hg1) E3 (fun q => hc q.2) (fun r' h => put_step g1a hp9 hg1 (turn2.trans h))
          have hyx' : ¬ pv (some y) = nI x := fun e => hyx ((nI_eq (by omega) (by omega)).mp e)
          have A4 := A3.tr hn1 am4
          have X4 := ax1.tr hn1 ax2
          have S4 := S3.tr (Nat.le_refl p) fs4
          have hn24 := hM4.2.2.1
          rw [if_neg hyx', show xTerms_isFree c1 (pv (some b)) (nI x) = _ from x_isFree hM2 (by omega) hx, ob_s, if_pos hbf, if_neg n10, show xPutter_letterFor c1 (pv (some y)) (pv (some b)) (nI u) = some zv from i1, ob_s, show xPutter_intoBody (f + 1) c1 (pv (some b)) (pv (some y)) zv (nI x) (nI u) = some (w, c2) from i2, bd_s]
          rcases h2 with ⟨rfl, g2⟩ | ⟨b', z', hz', rfl, hb', rfl, g2a, g2b, E4, hd2⟩
          · rw [if_neg n3, bd_s]
            exact ⟨-3, c2, r2, n2, rfl, fx1.tr fx2, by omega, hM4, X4, A4, S4, el0.trans el2, Or.inl ⟨rfl, g2⟩⟩
          · rw [if_pos (nI_pos' (by omega))]
            have R := bind_fin (v4 := v4) (oa2 := some t1) (ob2 := some b') (Ty_S (p := p) (fx1.tr fx2) S4 hT) hM4 (by omega) hx (Nod_keep X4 A4 (fx1.tr fx2) ht hN) (Or.inr rfl) (b := b) (show r2 39 (3 * t + bdy 4) = nI b from (A4.2.1 _ (by unfold bdy; simp; omega)).trans (r39b.trans c11)) hp9 g2b g2a hb' hz' E4 ⟨by decide, rfl, lo_s hz', lo_n, lo_s (by omega), lo_s hb', lo_n⟩ (fun q => by omega) (fun _ => ⟨rfl, rfl⟩)
            have dt1 : dpN c2 t1 = dpN c1 t1 := dp_keep ax2 ht1
            refine wrap (n1 := n2) (fx1.tr fx2) (by omega) X4 A4 S4 (el0.trans el2) (Q := fun c' t' => dpN c' t' = 1 + max (oz (dpN c2) (some t1)) (max (oz (dpN c2) (some b')) (oz (dpN c2) none)) ∧ (t' = t ∨ n2 ≤ t')) (fun c' t' _ q => ?_) ?_
            · obtain ⟨q, q'⟩ := q
              simp [oz] at q hdp
              exact ⟨by omega, by omega⟩
            · obtain ⟨v, c', r', n', w1, rest⟩ := R
              exact ⟨v, c', r', n', by rw [show xTerms_withParts c2 (nI t) (nI z') (nI t1) (nI b') (-2) = some (v, c') from w1, bd_s, bd_s], rest⟩
      · subst k3
        rw [show pv none = (-2 : Int32) from rfl, x_into_m (by omega) hx, bd_s, if_neg m23, x_letterOf_t hM3.1 hn34 (by omega), ob_s, X3 8 (by omega) (by omega) t ht, c8]
        have R := parts_fin (v4 := v4) (oa' := some t1) (ob2 := some t3) (od' := none) hT3 hM3 (by omega) hN3 (Or.inr (Or.inl rfl)) ⟨by decide, rfl, lo_n, lo_n, lo_s (by omega), lo_s ht3, lo_n⟩ hE3 hx hf3 hp9 hg3 g1 g3 rfl
        refine wrap (n1 := n3') (fx1.tr fx3) (by omega) X3 A3 S3 (el1.trans el3) (Q := fun c' t' => dpN c' t' = 1 + max (oz (dpN c3) (some t1)) (max (oz (dpN c3) (some t3)) (oz (dpN c3) none)) ∧ (t' = t ∨ n3' ≤ t')) (fun c' t' _ q => ?_) ?_
        · obtain ⟨q, q'⟩ := q
          simp [oz] at q hdp
          exact ⟨by omega, by omega⟩
        · obtain ⟨v, c', r', n', e1, rest⟩ := R
          exact ⟨v, c', r', n', by rw [show xTerms_withParts c3 (nI t) (pv none) (nI t1) (nI t3) (-2) = some (v, c') from e1, bd_s, bd_s], rest⟩
      · subst k3
        have hde : dpN c e ≤ d := by simp [oz] at hdp; omega
        have de3 : dpN c3 e = dpN c e := dp_keep X3 (by omega)
        have du3 : dpN c3 u = dpN c u := dp_keep X3 hu
        obtain ⟨v5, c5, r5, n5, e5, fx5, hn5, hM5, ax5, am5, fs5, el5, h5⟩ := put_part ih (f := f + 1) (v4 := v4) hT3 hM3 (by omega) hE3 (Or.inr (Or.inr rfl)) (by rw [X3 6 (by omega) (by omega) t ht]; exact c6) (by decide) hx (by omega) hf3 (show r3 39 (3 * t + 2) = nI e from (A3.2.1 _ (by omega)).trans (r39c.trans c12)) (by omega) (by rw [de3]; exact hde) (by omega) (by omega) (by omega) hg3
        rw [show xPutter_into (f + 1) c3 (pv (some e)) (nI x) (nI u) = some (v5, c5) from e5, bd_s]
        have A5 := A3.tr (by omega) am5
        have X5 := X3.tr (by omega) ax5
        have S5 := S3.tr (Nat.le_refl p) fs5
        have hn54 := hM5.2.2.1
        rcases h5 with ⟨rfl, g5⟩ | ⟨t5, ht5, rfl, g5, hd5, hE5⟩
        · rw [if_pos rfl, bd_s]
          exact ⟨-3, c5, r5, n5, rfl, (fx1.tr fx3).tr fx5, by omega, hM5, X5, A5, S5, (el1.trans el3).trans el5, Or.inl ⟨rfl, g5⟩⟩
        rw [if_neg (nne3 (by omega)), x_letterOf_t hM5.1 hn54 (by omega), ob_s, X5 8 (by omega) (by omega) t ht, c8]
        have dt3 : dpN c5 t3 = dpN c3 t3 := dp_keep ax5 ht3
        have dt15 : dpN c5 t1 = dpN c3 t1 := dp_keep ax5 (by omega)
        have R := parts_fin (v4 := v4) (oa' := some t1) (ob2 := some t3) (od' := some t5) (Ty_S fx5 fs5 hT3) hM5 (by omega) (Nod_keep ax5 am5 fx5 (by omega) hN3) (Or.inr (Or.inr rfl)) ⟨by decide, rfl, lo_n, lo_n, lo_s (by omega), lo_s (by omega), lo_s ht5⟩ hE5 hx (by rw [fr_keep A5 ht hx]; exact hfr) hp9 (by rw [g5]; exact nne3 (by omega)) g1 g3 g5
        refine wrap (n1 := n5) ((fx1.tr fx3).tr fx5) (by omega) X5 A5 S5 ((el1.trans el3).trans el5) (Q := fun c' t' => dpN c' t' = 1 + max (oz (dpN c5) (some t1)) (max (oz (dpN c5) (some t3)) (oz (dpN c5) (some t5))) ∧ (t' = t ∨ n5 ≤ t')) (fun c' t' _ q => ?_) ?_
        · obtain ⟨q, q'⟩ := q
          simp [oz] at q hdp
          exact ⟨by omega, by omega⟩
        · obtain ⟨v, c', r', n', e1, rest⟩ := R
          exact ⟨v, c', r', n', by rw [show xTerms_withParts c5 (nI t) (pv none) (nI t1) (nI t3) (nI t5) = some (v, c') from e1, bd_s, bd_s], rest⟩
    · rw [if_neg hfr, if_pos rfl]
      refine ⟨nI t, c, su (su (su (pshP r p (nI t) (nI x) (nI u)) 44 p (nI 1)) 30 22 (nI t)) 30 14 (nI p), n, rfl, fX.rf, Nat.le_refl n, ?_, AgX.rf, ?_, ?_, ?_, Or.inr ⟨t, ht, rfl, by rw [su_row, upd_s], by rw [su_row, upd_n (by omega), su_row, upd_s], by omega, Or.inl rfl⟩⟩
      · exact Tm_r (AgM_30 (AgM_30 (AgM_su AgM.rf (by omega)))) (by rw [su_row, upd_n (by omega), su_row, upd_n (by omega)]; rfl) hM0
      · exact AgM_30 (AgM_30 (AgM_su am0 (by omega)))
      · exact fS_30 (fS_30 (fS_su fs0 (by omega) (by omega) (Nat.le_refl p)) (by omega)) (by omega)
      · refine put_step hE0.1.1 hp9 hg0 ?_
        rw [pt_eq hM0 ht hE0 hp9 (by omega) hx c6, if_pos rfl, fe, if_neg hfr]
