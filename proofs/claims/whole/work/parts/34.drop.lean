theorem Nod_keep {n t T k : Nat} {c c' r r' : jS} {lx ty oa ob od : Option Nat} (hx : AgX n c c') (hm : AgM n r r') (hf : fX c c') (ht : t < n) (h : Nod c r T t k lx ty oa ob od) : Nod c' r' T t k lx ty oa ob od :=
  Nod_congr hx hm (fun i _ => by rw [hf 4 (by omega)]) ht h
/-- the entry p of the pile, on its top -/
def En (r : jS) (p t s : Nat) (A B C : Int32) : Prop := r 30 14 = nI (p + 1) ∧ r 43 p = nI t ∧ r 44 p = nI s ∧ r 45 p = A ∧ r 46 p = B ∧ r 47 p = C
theorem En_psh {r : jS} {p t : Nat} : En (psh r p (nI t)) p t 0 (-2) (-2) (-2) := by
  refine ⟨by unfold psh; rw [su_row, upd_s], ?_, ?_, ?_, ?_, ?_⟩
  · show upd (r 43) p _ p = _; exact upd_s
  · show upd (r 44) p _ p = _; rw [upd_s]; rfl
  · show upd (r 45) p _ p = _; exact upd_s
  · show upd (r 46) p _ p = _; exact upd_s
  · show upd (r 47) p _ p = _; exact upd_s
/-- what a turn stores -/
def stS (r : jS) (p s : Nat) : jS := if s = 1 then su (su r 44 p (nI (s + 1))) 45 p (r 30 22) else if s = 2 then su (su r 44 p (nI (s + 1))) 46 p (r 30 22) else if s = 3 then su (su r 44 p (nI (s + 1))) 47 p (r 30 22) else su r 44 p (nI (s + 1))
theorem stS_tab {r : jS} {p s n : Nat} : AgM n r (stS r p s) ∧ fS p r (stS r p s) ∧ (stS r p s) 30 = r 30 := by
  unfold stS
  by_cases h1 : s = 1
  · rw [if_pos h1]; exact ⟨AgM_su (AgM_su AgM.rf (by omega)) (by omega), fS_su (fS_su fS.rf (by omega) (by omega) (Nat.le_refl _)) (by omega) (by omega) (Nat.le_refl _), rfl⟩
  · rw [if_neg h1]
    by_cases h2 : s = 2
    · rw [if_pos h2]; exact ⟨AgM_su (AgM_su AgM.rf (by omega)) (by omega), fS_su (fS_su fS.rf (by omega) (by omega) (Nat.le_refl _)) (by omega) (by omega) (Nat.le_refl _), rfl⟩
    · rw [if_neg h2]
      by_cases h3 : s = 3
      · rw [if_pos h3]; exact ⟨AgM_su (AgM_su AgM.rf (by omega)) (by omega), fS_su (fS_su fS.rf (by omega) (by omega) (Nat.le_refl _)) (by omega) (by omega) (Nat.le_refl _), rfl⟩
      · rw [if_neg h3]; exact ⟨AgM_su AgM.rf (by omega), fS_su fS.rf (by omega) (by omega) (Nat.le_refl _), rfl⟩
theorem stS_En {r : jS} {p t s : Nat} {A B C : Int32} (h : En r p t s A B C) : En (stS r p s) p t (s + 1) (if s = 1 then r 30 22 else A) (if s = 2 then r 30 22 else B) (if s = 3 then r 30 22 else C) := by
  obtain ⟨e1, e2, e3, e4, e5, e6⟩ := h
  unfold stS
  by_cases h1 : s = 1
  · subst h1
    exact ⟨e1, e2, (show upd (r 44) p _ p = _ from upd_s), (show upd (r 45) p _ p = _ from upd_s), e5, e6⟩
  · rw [if_neg h1, if_neg h1]
    by_cases h2 : s = 2
    · subst h2
      exact ⟨e1, e2, (show upd (r 44) p _ p = _ from upd_s), e4, (show upd (r 46) p _ p = _ from upd_s), e6⟩
    · rw [if_neg h2, if_neg h2]
      by_cases h3 : s = 3
      · subst h3
        exact ⟨e1, e2, (show upd (r 44) p _ p = _ from upd_s), e4, e5, (show upd (r 47) p _ p = _ from upd_s)⟩
      · rw [if_neg h3, if_neg h3]
        exact ⟨e1, e2, (show upd (r 44) p _ p = _ from upd_s), e4, e5, e6⟩
theorem dt_eq {r : jS} {p t s : Nat} {A B C : Int32} (h : En r p t s A B C) (hp : p < 90) (hs : s ≤ 3) : m_dropTurn r = m_dropTurn_P82 (nI p) (nI t) (nI s) (stS r p s) := by
  obtain ⟨e1, e2, e3, e4, e5, e6⟩ := h
  unfold m_dropTurn
  have g : ∀ {α : Type} {x : Option α}, gd (ix (nI p) 90) x = x := fun {α x} => gd_t (ix_nI (by omega) (by decide))
  rw [e1, nI_pred]
  simp only [g, ltS, nI_clamp (show p < 2 ^ 31 by omega)]
  rw [e2, e3, nI_1]
  have c1 : (nI s = (1 : Int32)) ↔ s = 1 := nI_eq (b := 1) (by omega) (by decide)
  have c2 : (nI s = (2 : Int32)) ↔ s = 2 := nI_eq (b := 2) (by omega) (by decide)
  have c3 : (nI s = (3 : Int32)) ↔ s = 3 := nI_eq (b := 3) (by omega) (by decide)
  unfold stS
  by_cases h1 : s = 1
  · rw [if_pos (c1.mpr h1), if_pos h1]
    rfl
  · rw [if_neg (fun e => h1 (c1.mp e)), if_neg h1]
    by_cases h2 : s = 2
    · rw [if_pos (c2.mpr h2), if_pos h2]
      rfl
    · rw [if_neg (fun e => h2 (c2.mp e)), if_neg h2]
      by_cases h3 : s = 3
      · rw [if_pos (c3.mpr h3), if_pos h3]
        rfl
      · rw [if_neg (fun e => h3 (c3.mp e)), if_neg h3]
theorem drop_step {r r' : jS} {v2 : Int32} {p : Nat} (h14 : r 30 14 = nI (p + 1)) (hp : p < 90) (hg : r 30 22 ≠ -3) (ht : m_dropTurn r = some ((), r')) : m_drop_L30 v2 r = m_drop_L30 v2 r' := by
  unfold m_drop_L30
  refine lp_inl ?_
  show m_drop_S30 v2 r = _
  unfold m_drop_S30
  rw [h14, if_neg (nI_nle (by omega) (by omega)), if_neg hg, ht, bd_s]
def kP (k : Nat) : Nat := if k < 2 then 0 else if k = 2 then 1 else if k = 6 then 3 else 2
/-- a turn that goes into the part s -/
theorem dt_push {c r : jS} {T n p t s k q : Nat} {A B C : Int32} (hM : Tm c r T n) (ht : t < n) (h : En r p t s A B C) (hp : p + 1 < 90) (hk : k < 7) (h6 : c 6 t = nI k) (hs : s < kP k) (hq : r 39 (3 * t + s) = nI q) : m_dropTurn r = some ((), psh (stS r p s) (p + 1) (nI q)) := by
  have h4 := hM.2.2.1
  have hs3 : s < 3 := by unfold kP at hs; by_cases h2 : k < 2 <;> by_cases h22 : k = 2 <;> by_cases h66 : k = 6 <;> simp [h2, h22, h66] at hs <;> omega
  have tab := stS_tab (r := r) (p := p) (s := s) (n := n)
  have hM' : Tm c (stS r p s) T n := Tm_r tab.1 (by rw [tab.2.2]) hM
  have r35 := (hM'.2.2.2 t ht).1.1.1
  rw [dt_eq h (by omega) (by omega)]
  unfold m_dropTurn_P82
  rw [gd_t (ix_nI (by omega) (by decide)), nI_clamp (by omega), r35, h6, show m_partsOf (stS r p s) (nI k) = some (nI (kP k)) from pO hk _, ob_s]
  rw [if_neg (show ¬ nI (kP k) ≤ nI s from nI_ge hs (by unfold kP; by_cases h2 : k < 2 <;> by_cases h22 : k = 2 <;> by_cases h66 : k = 6 <;> simp [h2, h22, h66])), m_part_t hM' ht hs3, ob_s, tab.1.2.1 _ (show 3 * t + s < 3 * n by omega), hq, m_push_t (p := p + 1) (by rw [tab.2.2]; exact h.1) hp, bd_s]
def Drp (T d : Nat) : Prop := ∀ (f t : Nat) (c r : jS) (n p : Nat) (v2 : Int32), Ty c r T → Tm c r T n → t < n → dpN c t ≤ d → d + 1 ≤ f → p + d ≤ 90 → r 30 14 = nI p → r 30 22 ≠ -3 →
  ∃ (v : Int32) (c' r' : jS) (n' : Nat), xDropper_withoutLets f c (nI t) = some (v, c') ∧ fX c c' ∧ n ≤ n' ∧ Tm c' r' T n' ∧ AgX n c c' ∧ AgM n r r' ∧ fS p r r' ∧ m_drop_L30 v2 (psh r p (nI t)) = m_drop_L30 v2 r' ∧
    ((v = -3 ∧ r' 30 22 = -3) ∨ ∃ t', t' < n' ∧ v = nI t' ∧ r' 30 14 = nI p ∧ r' 30 22 = nI t')
/-- one part -/
theorem drop_part {T d : Nat} (ih : Drp T d) {f t s k q : Nat} {c r : jS} {n p : Nat} {v2 A B C : Int32} (hT : Ty c r T) (hM : Tm c r T n) (ht : t < n) (hE : En r p t s A B C) (hk : k < 7) (h6 : c 6 t = nI k) (hs : s < kP k) (hq : r 39 (3 * t + s) = nI q) (hqn : q < n) (hd : dpN c q ≤ d) (hf : d + 1 ≤ f) (hp : p + 1 + d ≤ 90) (hp1 : p + 1 < 90) (hg : r 30 22 ≠ -3) :
    ∃ (v : Int32) (c' r' : jS) (n' : Nat), xDropper_withoutLets f c (nI q) = some (v, c') ∧ fX c c' ∧ n ≤ n' ∧ Tm c' r' T n' ∧ AgX n c c' ∧ AgM n r r' ∧ fS p r r' ∧ m_drop_L30 v2 r = m_drop_L30 v2 r' ∧
      ((v = -3 ∧ r' 30 22 = -3) ∨ ∃ t', t' < n' ∧ v = nI t' ∧ r' 30 22 = nI t' ∧ En r' p t (s + 1) (if s = 1 then r 30 22 else A) (if s = 2 then r 30 22 else B) (if s = 3 then r 30 22 else C)) := by
  have tab := stS_tab (r := r) (p := p) (s := s) (n := n)
  have hM' : Tm c (stS r p s) T n := Tm_r tab.1 (by rw [tab.2.2]) hM
  have hT' : Ty c (stS r p s) T := Ty_S fX.rf tab.2.1 hT
  have hE' := stS_En hE
  obtain ⟨v, c', r', n', e1, fx, hn, hM2, ax, am, fs, el, h⟩ := ih f q c (stS r p s) n (p + 1) v2 hT' hM' hqn hd hf hp (by rw [tab.2.2]; exact hE.1) (by rw [tab.2.2]; exact hg)
  refine ⟨v, c', r', n', e1, fx, hn, hM2, ax, tab.1.tr (Nat.le_refl n) am, tab.2.1.tr (by omega) fs, ?_, ?_⟩
  · rw [drop_step hE.1 (by omega) hg (dt_push hM ht hE hp1 hk h6 hs hq), el]
  · rcases h with h | ⟨t', h1, h2, h3, h4⟩
    · exact Or.inl h
    · obtain ⟨e1, e2, e3, e4, e5, e6⟩ := hE'
      exact Or.inr ⟨t', h1, h2, h4, h3, by rw [fs.2.2 43 (by omega) (by omega) p (by omega)]; exact e2, by rw [fs.2.2 44 (by omega) (by omega) p (by omega)]; exact e3, by rw [fs.2.2 45 (by omega) (by omega) p (by omega)]; exact e4, by rw [fs.2.2 46 (by omega) (by omega) p (by omega)]; exact e5, by rw [fs.2.2 47 (by omega) (by omega) p (by omega)]; exact e6⟩
