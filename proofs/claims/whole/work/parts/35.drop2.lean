theorem kP_3 {k : Nat} (hk : k < 7) : kP k ≤ 3 := by
  rcases (show k = 0 ∨ k = 1 ∨ k = 2 ∨ k = 3 ∨ k = 4 ∨ k = 5 ∨ k = 6 by omega) with rfl | rfl | rfl | rfl | rfl | rfl | rfl <;> decide
/-- behind the last part -/
theorem drop_fin {T t k : Nat} {c r : jS} {n p : Nat} {v2 A B C : Int32} {lx ty oa ob' od oa' ob2 od' : Option Nat} (F : jS → Int32 → Option (Int32 × jS)) (hT : Ty c r T) (hM : Tm c r T n) (ht : t < n) (hN : Nod c r T t k lx ty oa ob' od) (hs : shp T n k lx ty oa' ob2 od') (hE : En r p t (kP k) A B C) (hp : p < 90) (hg : r 30 22 ≠ -3)
    (hA : (if kP k = 1 then r 30 22 else A) = pv oa') (hB : (if kP k = 2 then r 30 22 else B) = pv ob2) (hC : (if kP k = 3 then r 30 22 else C) = pv od') :
    ∃ (v : Int32) (c' r' : jS) (n' : Nat), ob (xTerms_kindOf c (nI t)) (fun r11 => if r11 = (4 : Int32) then ob (xTerms_letterOf c (nI t)) (fun r15 => ob (xTerms_isFree c (pv ob2) r15) (fun r16 => if r16 = 0 then some (pv ob2, c) else xDropper_withoutLets_P114 F (nI t) (pv oa') (pv ob2) (pv od') c)) else xDropper_withoutLets_P114 F (nI t) (pv oa') (pv ob2) (pv od') c) = some (v, c') ∧ fX c c' ∧ n ≤ n' ∧ Tm c' r' T n' ∧ AgX n c c' ∧ AgM n r r' ∧ fS p r r' ∧ m_drop_L30 v2 r = m_drop_L30 v2 r' ∧
      ((v = -3 ∧ r' 30 22 = -3) ∨ ∃ t', t' < n' ∧ v = nI t' ∧ r' 30 14 = nI p ∧ r' 30 22 = nI t') := by
  have h4 := hM.2.2.1
  obtain ⟨hs0, ⟨c6, c8, c9, c10, c11, c12, -⟩, -⟩ := id hN
  obtain ⟨hk7, -, l1, -, -, -, -⟩ := id hs0
  have tab := stS_tab (r := r) (p := p) (s := kP k) (n := n)
  have hM' : Tm c (stS r p (kP k)) T n := Tm_r tab.1 (by rw [tab.2.2]) hM
  have hT' : Ty c (stS r p (kP k)) T := Ty_S fX.rf tab.2.1 hT
  have hN' : Nod c (stS r p (kP k)) T t k lx ty oa ob' od := Nod_keep AgX.rf tab.1 fX.rf ht hN
  obtain ⟨e1, e2, e3, e4, e5, e6⟩ := stS_En hE
  rw [hA] at e4
  rw [hB] at e5
  rw [hC] at e6
  obtain ⟨⟨r35, r36, r37, r38, r39, -⟩, -⟩ := (hM'.2.2.2 t ht).1
  have hk4 : (nI k = (4 : Int32)) ↔ k = 4 := nI_eq (b := 4) (by omega) (by decide)
  have gp : ∀ {α : Type} {x : Option α}, gd (ix (nI p) 90) x = x := fun {α x} => gd_t (ix_nI (by omega) (by decide))
  have gt : ∀ {α : Type} {x : Option α}, gd (ix (nI t) 400) x = x := fun {α x} => gd_t (ix_nI (by omega) (by decide))
  obtain ⟨v, c', r', f1, f2, fx, fm, ax, am, h⟩ := RMD hT' hM' ht hN' hs
  have hP114 : xDropper_withoutLets_P114 F (nI t) (pv oa') (pv ob2) (pv od') c = some (v, c') := by
    unfold xDropper_withoutLets_P114
    rw [x_letterOf_t hM.1 h4 ht, ob_s, c8, f1, bd_s]
  have hP141 : m_dropTurn_P141 (nI p) (nI t) (stS r p (kP k)) = some ((), su (su r' 30 22 v) 30 14 (nI p)) := by
    unfold m_dropTurn_P141 m_dropTurn_P142
    rw [if_pos rfl]
    simp only [gp, gt, nI_clamp (show p < 2 ^ 31 by omega), nI_clamp (show t < 2 ^ 31 by omega)]
    rw [r37, c8, e4, e5, e6, f2, bd_s, ltS, ltS, show (su r' 30 22 v) 30 14 = nI (p + 1) from (by rw [su_row, upd_n (by omega), fm.2 14 (by omega)]; exact e1), nI_pred]
  have turn : m_dropTurn r = if k = 4 then ob (m_isFree (stS r p (kP k)) (pv ob2) (pv lx)) (fun r9 => if r9 = 0 then m_dropTurn_P142 (nI p) (nI t) 1 (stS r p (kP k)) else m_dropTurn_P141 (nI p) (nI t) (stS r p (kP k))) else m_dropTurn_P141 (nI p) (nI t) (stS r p (kP k)) := by
    rw [dt_eq hE hp (kP_3 hk7)]
    unfold m_dropTurn_P82
    simp only [gp, gt, nI_clamp (show p < 2 ^ 31 by omega), nI_clamp (show t < 2 ^ 31 by omega)]
    have := kP_3 hk7
    rw [r35, c6, show m_partsOf (stS r p (kP k)) (nI k) = some (nI (kP k)) from pO hk7 _, ob_s, if_pos (nI_le (Nat.le_refl _) (by omega)), e5, r37, c8]
    simp only [hk4]
  have fin : ∀ (hturn : m_dropTurn r = m_dropTurn_P141 (nI p) (nI t) (stS r p (kP k))), ∃ (c2 r2 : jS) (n' : Nat), c' = c2 ∧ fX c c2 ∧ n ≤ n' ∧ Tm c2 r2 T n' ∧ AgX n c c2 ∧ AgM n r r2 ∧ fS p r r2 ∧ m_drop_L30 v2 r = m_drop_L30 v2 r2 ∧ ((v = -3 ∧ r2 30 22 = -3) ∨ ∃ t', t' < n' ∧ v = nI t' ∧ r2 30 14 = nI p ∧ r2 30 22 = nI t') := by
    intro hturn
    have g22 : (su (su r' 30 22 v) 30 14 (nI p)) 30 22 = v := by rw [su_row, upd_n (by omega), su_row, upd_s]
    have g14 : (su (su r' 30 22 v) 30 14 (nI p)) 30 14 = nI p := by rw [su_row, upd_s]
    have am2 : AgM n r (su (su r' 30 22 v) 30 14 (nI p)) := AgM_30 (AgM_30 (tab.1.tr (Nat.le_refl n) am))
    have fs2 : fS p r (su (su r' 30 22 v) 30 14 (nI p)) := fS_30 (fS_30 (tab.2.1.tr (Nat.le_refl p) (fS_M fm)) (by omega)) (by omega)
    have el : m_drop_L30 v2 r = m_drop_L30 v2 (su (su r' 30 22 v) 30 14 (nI p)) := drop_step hE.1 hp hg (hturn.trans hP141)
    have tmr : ∀ {m : Nat}, Tm c' r' T m → Tm c' (su (su r' 30 22 v) 30 14 (nI p)) T m := fun h => Tm_r (AgM_30 (AgM_30 AgM.rf)) (by rw [su_row, upd_n (by omega), su_row, upd_n (by omega)]) h
    rcases h with ⟨rfl, rfl, hm⟩ | ⟨rfl, rfl, rfl, -⟩ | ⟨rfl, hn, hm, -⟩
    · exact ⟨_, _, n, rfl, fx, Nat.le_refl n, tmr hm, ax, am2, fs2, el, Or.inl ⟨rfl, g22⟩⟩
    · exact ⟨_, _, n, rfl, fx, Nat.le_refl n, tmr hM', ax, am2, fs2, el, Or.inr ⟨t, ht, rfl, g14, g22⟩⟩
    · exact ⟨_, _, n + 1, rfl, fx, Nat.le_succ n, tmr hm, ax, am2, fs2, el, Or.inr ⟨n, Nat.lt_succ_self n, rfl, g14, g22⟩⟩
  rw [x_kindOf_t hM.1 h4 ht, ob_s, c6]
  by_cases k4 : k = 4
  · rcases shp_cases hs with ⟨q, -⟩ | ⟨q, -⟩ | ⟨q, -⟩ | ⟨q, -⟩ | ⟨-, x, a, b, hx, ha, hb, q4, q5, q6, rfl, q8⟩ | ⟨q, -⟩ | ⟨q, -⟩
    · omega
    · omega
    · omega
    · omega
    · subst q4
      rw [if_pos (hk4.mpr k4), x_letterOf_t hM.1 h4 ht, ob_s, c8, show xTerms_isFree c (pv (some b)) (pv (some x)) = _ from x_isFree hM' hb hx, ob_s]
      rw [if_pos k4, show m_isFree (stS r p (kP k)) (pv (some b)) (pv (some x)) = _ from m_isFr hM' hb hx, ob_s] at turn
      by_cases h0 : 0 < frN (stS r p (kP k)) b x
      · rw [if_pos h0, if_neg n10] at turn
        rw [if_pos h0, if_neg n10, hP114]
        obtain ⟨c2, r2, n', rfl, h⟩ := fin turn
        exact ⟨v, c', r2, n', rfl, h⟩
      · rw [if_neg h0, if_pos rfl] at turn
        rw [if_neg h0, if_pos rfl]
        have hP142 : m_dropTurn_P142 (nI p) (nI t) 1 (stS r p (kP k)) = some ((), su (su (stS r p (kP k)) 30 22 (nI b)) 30 14 (nI p)) := by
          unfold m_dropTurn_P142
          rw [if_neg n10, gp, nI_clamp (by omega), e5, ltS, ltS, show (su (stS r p (kP k)) 30 22 (pv (some b))) 30 14 = nI (p + 1) from (by rw [su_row, upd_n (by omega)]; exact e1), nI_pred]
          rfl
        refine ⟨nI b, c, su (su (stS r p (kP k)) 30 22 (nI b)) 30 14 (nI p), n, rfl, fX.rf, Nat.le_refl n, Tm_r (AgM_30 (AgM_30 AgM.rf)) (by rw [su_row, upd_n (by omega), su_row, upd_n (by omega)]) hM', AgX.rf, AgM_30 (AgM_30 tab.1), fS_30 (fS_30 tab.2.1 (by omega)) (by omega), drop_step hE.1 hp hg (turn.trans hP142), Or.inr ⟨b, hb, rfl, by rw [su_row, upd_s], by rw [su_row, upd_n (by omega), su_row, upd_s]⟩⟩
    · omega
    · omega
  · rw [if_neg (fun e => k4 (hk4.mp e)), hP114]
    rw [if_neg k4] at turn
    obtain ⟨c2, r2, n', rfl, h⟩ := fin turn
    exact ⟨v, c', r2, n', rfl, h⟩
