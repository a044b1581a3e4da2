theorem x_drop_m {f : Nat} {c : jS} (hf : 1 ≤ f) : xDropper_withoutLets f c (-2) = some (-2, c) := by
  obtain ⟨f', rfl⟩ : ∃ f', f = f' + 1 := ⟨f - 1, by omega⟩
  rw [xDropper_withoutLets_s]
  unfold b_xDropper_withoutLets
  rw [x_has_m, ob_s, if_pos rfl]
theorem m23 : ¬ (-2 : Int32) = -3 := by decide
theorem psh_5 {r : jS} {p : Nat} {v : Int32} {k : Nat} (hk : k ≠ 14) : (psh r p v) 30 k = r 30 k := by
  unfold psh
  rw [su_row, upd_n hk]
  rfl
set_option maxHeartbeats 1000000 in
theorem drop_sim (T : Nat) : ∀ d, Drp T d
  | 0 => fun f t c r n p v2 hT hM ht hd => absurd (dp_pos hM ht) (by omega)
  | d + 1 => by
    have ih := drop_sim T d
    intro f t c r n p v2 hT hM ht hd hf hp h14 hg
    obtain ⟨f, rfl⟩ : ∃ f', f = f' + 1 := ⟨f - 1, by omega⟩
    have h4 := hM.2.2.1
    obtain ⟨hC, k, lx, ty, oa, ob', od, hN⟩ := hM.2.2.2 t ht
    obtain ⟨⟨r35, r36, r37, r38, r39, r39b, r39c, r40, r41⟩, -⟩ := hC
    obtain ⟨hs, ⟨c6, c8, c9, c10, c11, c12, -⟩, ⟨-, hdp⟩, -⟩ := id hN
    have hE0 : En (psh r p (nI t)) p t 0 (-2) (-2) (-2) := En_psh
    have am0 : AgM n r (psh r p (nI t)) := AgM_psh AgM.rf
    have hM0 : Tm c (psh r p (nI t)) T n := Tm_r am0 (psh_5 (by omega)) hM
    have fs0 : fS p r (psh r p (nI t)) := fS_psh fS.rf (Nat.le_refl p)
    have hT0 : Ty c (psh r p (nI t)) T := Ty_S fX.rf fs0 hT
    have hN0 : Nod c (psh r p (nI t)) T t k lx ty oa ob' od := Nod_keep AgX.rf am0 fX.rf ht hN
    have hg0 : (psh r p (nI t)) 30 22 ≠ -3 := by rw [psh_5 (by omega)]; exact hg
    have hp9 : p < 90 := by omega
    have wrap : ∀ {X : Option (Int32 × jS)} {c1 r1 : jS} {n1 : Nat}, fX c c1 → n ≤ n1 → AgX n c c1 → AgM n r r1 → fS p r r1 → m_drop_L30 v2 (psh r p (nI t)) = m_drop_L30 v2 r1 →
        (∃ (v : Int32) (c' r' : jS) (n' : Nat), X = some (v, c') ∧ fX c1 c' ∧ n1 ≤ n' ∧ Tm c' r' T n' ∧ AgX n1 c1 c' ∧ AgM n1 r1 r' ∧ fS p r1 r' ∧ m_drop_L30 v2 r1 = m_drop_L30 v2 r' ∧ ((v = -3 ∧ r' 30 22 = -3) ∨ ∃ t', t' < n' ∧ v = nI t' ∧ r' 30 14 = nI p ∧ r' 30 22 = nI t')) →
        ∃ (v : Int32) (c' r' : jS) (n' : Nat), X = some (v, c') ∧ fX c c' ∧ n ≤ n' ∧ Tm c' r' T n' ∧ AgX n c c' ∧ AgM n r r' ∧ fS p r r' ∧ m_drop_L30 v2 (psh r p (nI t)) = m_drop_L30 v2 r' ∧ ((v = -3 ∧ r' 30 22 = -3) ∨ ∃ t', t' < n' ∧ v = nI t' ∧ r' 30 14 = nI p ∧ r' 30 22 = nI t') := by
      intro X c1 r1 n1 a1 a2 a3 a4 a5 a6 h
      obtain ⟨v, c', r', n', b1, b2, b3, b4, b5, b6, b7, b8, b9⟩ := h
      exact ⟨v, c', r', n', b1, a1.tr b2, by omega, b4, a3.tr a2 b5, a4.tr a2 b6, a5.tr (Nat.le_refl p) b7, a6.trans b8, b9⟩
    rw [xDropper_withoutLets_s]
    unfold b_xDropper_withoutLets
    rw [x_has_t hM.1 h4 ht, ob_s, if_neg n10, x_firstOf_t hM.1 h4 ht, ob_s, c10]
    rcases shp_cases hs with ⟨rfl, rfl, rfl, rfl, rfl, rfl⟩ | ⟨rfl, x, hx, rfl, rfl, rfl, rfl, rfl⟩ | ⟨rfl, x, y, a, hx, hy, ha, rfl, rfl, rfl, rfl, rfl⟩ | ⟨k3, a, b, ha, hb, rfl, rfl, rfl, rfl, rfl⟩ | ⟨k3, x, a, b, hx, ha, hb, rfl, rfl, rfl, rfl, rfl⟩ | ⟨k3, a, b, ha, hb, rfl, rfl, rfl, rfl, rfl⟩ | ⟨rfl, a, b, e, ha, hb, he, rfl, rfl, rfl, rfl, rfl⟩
    · rw [show pv none = (-2 : Int32) from rfl, x_drop_m (by omega), bd_s, if_neg m23, x_secondOf_t hM.1 h4 ht, ob_s, c11, show pv none = (-2 : Int32) from rfl, x_drop_m (by omega), bd_s, if_neg m23, x_thirdOf_t hM.1 h4 ht, ob_s, c12, show pv none = (-2 : Int32) from rfl, x_drop_m (by omega), bd_s, if_neg m23]
      exact wrap fX.rf (Nat.le_refl n) AgX.rf am0 fs0 rfl (drop_fin (oa' := none) (ob2 := none) (od' := none) _ hT0 hM0 ht hN0 ⟨by decide, rfl, lo_n, lo_n, lo_n, lo_n, lo_n⟩ hE0 hp9 hg0 rfl rfl rfl)
    · rw [show pv none = (-2 : Int32) from rfl, x_drop_m (by omega), bd_s, if_neg m23, x_secondOf_t hM.1 h4 ht, ob_s, c11, show pv none = (-2 : Int32) from rfl, x_drop_m (by omega), bd_s, if_neg m23, x_thirdOf_t hM.1 h4 ht, ob_s, c12, show pv none = (-2 : Int32) from rfl, x_drop_m (by omega), bd_s, if_neg m23]
      exact wrap fX.rf (Nat.le_refl n) AgX.rf am0 fs0 rfl (drop_fin (oa' := none) (ob2 := none) (od' := none) _ hT0 hM0 ht hN0 ⟨by decide, rfl, lo_s hx, lo_n, lo_n, lo_n, lo_n⟩ hE0 hp9 hg0 rfl rfl rfl)
    · have hda : dpN c a ≤ d := by simp [oz] at hdp; omega
      have dpa := dp_pos hM (t := a) (by omega)
      obtain ⟨v1, c1, r1, n1, e1, fx1, hn1, hM1, ax1, am1, fs1, el1, h1⟩ := drop_part ih (f := f) (v2 := v2) hT0 hM0 ht hE0 (k := 2) (by decide) c6 (by decide) (show (psh r p (nI t)) 39 (3 * t + 0) = nI a from r39.trans c10) (by omega) hda (by omega) (by omega) (by omega) hg0
      rw [show pv (some a) = nI a from rfl, e1, bd_s]
      rcases h1 with ⟨rfl, g1⟩ | ⟨t1, ht1, rfl, g1, hE1⟩
      · rw [if_pos rfl]
        exact ⟨-3, c1, r1, n1, rfl, fx1, hn1, hM1, ax1, am0.tr (Nat.le_refl n) am1, fs0.tr (Nat.le_refl p) fs1, el1, Or.inl ⟨rfl, g1⟩⟩
      · have hn14 := hM1.2.2.1
        rw [if_neg (nI_ne (by omega) (by decide)), x_secondOf_t hM1.1 hn14 (by omega), ob_s, ax1 11 (by omega) (by omega) t ht, c11, show pv none = (-2 : Int32) from rfl, x_drop_m (by omega), bd_s, if_neg m23, x_thirdOf_t hM1.1 hn14 (by omega), ob_s, ax1 12 (by omega) (by omega) t ht, c12, show pv none = (-2 : Int32) from rfl, x_drop_m (by omega), bd_s, if_neg m23]
        exact wrap fx1 hn1 ax1 (am0.tr (Nat.le_refl n) am1) (fs0.tr (Nat.le_refl p) fs1) el1 (drop_fin (oa' := some t1) (ob2 := none) (od' := none) _ (Ty_S fx1 fs1 hT0) hM1 (by omega) (Nod_keep ax1 am1 fx1 ht hN0) ⟨by decide, rfl, lo_s hx, lo_s hy, lo_s ht1, lo_n, lo_n⟩ hE1 hp9 (by rw [g1]; exact nI_ne (by omega) (by decide)) g1 rfl rfl)
    all_goals
      have hda : dpN c a ≤ d := by simp [oz] at hdp; omega
      have hdb : dpN c b ≤ d := by simp [oz] at hdp; omega
      have dpa := dp_pos hM (t := a) (by omega)
      obtain ⟨v1, c1, r1, n1, e1, fx1, hn1, hM1, ax1, am1, fs1, el1, h1⟩ := drop_part ih (f := f) (v2 := v2) hT0 hM0 ht hE0 hs.1 c6 (by first | (subst k3; decide) | decide) (show (psh r p (nI t)) 39 (3 * t + 0) = nI a from r39.trans c10) (by omega) hda (by omega) (by omega) (by omega) hg0
      rw [show pv (some a) = nI a from rfl, e1, bd_s]
      rcases h1 with ⟨rfl, g1⟩ | ⟨t1, ht1, rfl, g1, hE1⟩
      · rw [if_pos rfl]
        exact ⟨-3, c1, r1, n1, rfl, fx1, hn1, hM1, ax1, am0.tr (Nat.le_refl n) am1, fs0.tr (Nat.le_refl p) fs1, el1, Or.inl ⟨rfl, g1⟩⟩
      have hn14 := hM1.2.2.1
      have hg1 : r1 30 22 ≠ -3 := by rw [g1]; exact nI_ne (by omega) (by decide)
      have hT1 := Ty_S fx1 fs1 hT0
      have hN1 := Nod_keep ax1 am1 fx1 ht hN0
      have hdb1 : dpN c1 b ≤ d := by
        have : dpN c1 b = dpN c b := by unfold dpN; rw [ax1 14 (by omega) (by omega) b (by omega)]
        omega
      obtain ⟨v3, c3, r3, n3, e3, fx3, hn3, hM3, ax3, am3, fs3, el3, h3⟩ := drop_part ih (f := f) (v2 := v2) hT1 hM1 (by omega) hE1 hs.1 (by rw [ax1 6 (by omega) (by omega) t ht]; exact c6) (by first | (subst k3; decide) | decide) (show r1 39 (3 * t + 1) = nI b from (am1.2.1 _ (by omega)).trans (r39b.trans c11)) (by omega) hdb1 (by omega) (by omega) (by omega) hg1
      rw [if_neg (nI_ne (by omega) (by decide)), x_secondOf_t hM1.1 hn14 (by omega), ob_s, ax1 11 (by omega) (by omega) t ht, c11, show pv (some b) = nI b from rfl, e3, bd_s]
      have A1 := (am0.tr (Nat.le_refl n) am1).tr hn1 am3
      have X1 := ax1.tr hn1 ax3
      have S1 := (fs0.tr (Nat.le_refl p) fs1).tr (Nat.le_refl p) fs3
      rcases h3 with ⟨rfl, g3⟩ | ⟨t3, ht3, rfl, g3, hE3⟩
      · rw [if_pos rfl]
        exact ⟨-3, c3, r3, n3, rfl, fx1.tr fx3, by omega, hM3, X1, A1, S1, el1.trans el3, Or.inl ⟨rfl, g3⟩⟩
      have hn34 := hM3.2.2.1
      have hg3 : r3 30 22 ≠ -3 := by rw [g3]; exact nI_ne (by omega) (by decide)
      have hT3 := Ty_S fx3 fs3 hT1
      have hN3 := Nod_keep ax3 am3 fx3 (by omega) hN1
      rw [if_neg (nI_ne (by omega) (by decide)), x_thirdOf_t hM3.1 hn34 (by omega), ob_s, X1 12 (by omega) (by omega) t ht, c12]
    · rw [show pv none = (-2 : Int32) from rfl, x_drop_m (by omega), bd_s, if_neg m23]
      subst k3
      exact wrap (fx1.tr fx3) (by omega) X1 A1 S1 (el1.trans el3) (drop_fin (oa' := some t1) (ob2 := some t3) (od' := none) _ hT3 hM3 (by omega) hN3 ⟨by decide, rfl, lo_n, lo_n, lo_s (by omega), lo_s ht3, lo_n⟩ hE3 hp9 hg3 g1 g3 rfl)
    · rw [show pv none = (-2 : Int32) from rfl, x_drop_m (by omega), bd_s, if_neg m23]
      subst k3
      exact wrap (fx1.tr fx3) (by omega) X1 A1 S1 (el1.trans el3) (drop_fin (oa' := some t1) (ob2 := some t3) (od' := none) _ hT3 hM3 (by omega) hN3 ⟨by decide, rfl, lo_s hx, lo_n, lo_s (by omega), lo_s ht3, lo_n⟩ hE3 hp9 hg3 g1 g3 rfl)
    · rw [show pv none = (-2 : Int32) from rfl, x_drop_m (by omega), bd_s, if_neg m23]
      subst k3
      exact wrap (fx1.tr fx3) (by omega) X1 A1 S1 (el1.trans el3) (drop_fin (oa' := some t1) (ob2 := some t3) (od' := none) _ hT3 hM3 (by omega) hN3 ⟨by decide, rfl, lo_n, lo_n, lo_s (by omega), lo_s ht3, lo_n⟩ hE3 hp9 hg3 g1 g3 rfl)
    · have hde : dpN c3 e ≤ d := by
        have : dpN c3 e = dpN c e := by unfold dpN; rw [X1 14 (by omega) (by omega) e (by omega)]
        simp [oz] at hdp
        omega
      obtain ⟨v5, c5, r5, n5, e5, fx5, hn5, hM5, ax5, am5, fs5, el5, h5⟩ := drop_part ih (f := f) (v2 := v2) hT3 hM3 (by omega) hE3 hs.1 (by rw [X1 6 (by omega) (by omega) t ht]; exact c6) (by decide) (show r3 39 (3 * t + 2) = nI e from (am3.2.1 _ (by omega)).trans ((am1.2.1 _ (by omega)).trans (r39c.trans c12))) (by omega) hde (by omega) (by omega) (by omega) hg3
      rw [show pv (some e) = nI e from rfl, e5, bd_s]
      rcases h5 with ⟨rfl, g5⟩ | ⟨t5, ht5, rfl, g5, hE5⟩
      · rw [if_pos rfl]
        exact ⟨-3, c5, r5, n5, rfl, (fx1.tr fx3).tr fx5, by omega, hM5, X1.tr (by omega) ax5, A1.tr (by omega) am5, S1.tr (Nat.le_refl p) fs5, (el1.trans el3).trans el5, Or.inl ⟨rfl, g5⟩⟩
      · have hn54 := hM5.2.2.1
        rw [if_neg (nI_ne (by omega) (by decide))]
        exact wrap ((fx1.tr fx3).tr fx5) (by omega) (X1.tr (by omega) ax5) (A1.tr (by omega) am5) (S1.tr (Nat.le_refl p) fs5) ((el1.trans el3).trans el5) (drop_fin (oa' := some t1) (ob2 := some t3) (od' := some t5) _ (Ty_S fx5 fs5 hT3) hM5 (by omega) (Nod_keep ax5 am5 fx5 (by omega) hN3) ⟨by decide, rfl, lo_n, lo_n, lo_s (by omega), lo_s (by omega), lo_s ht5⟩ hE5 hp9 (by rw [g5]; exact nI_ne (by omega) (by decide)) g1 g3 g5)
