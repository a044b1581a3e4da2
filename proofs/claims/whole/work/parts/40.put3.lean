def Put (T d : Nat) : Prop := ∀ (f t x u : Nat) (c r : jS) (n p : Nat) (v4 : Int32), Ty c r T → Tm c r T n → t < n → x < 26 → u < n → dpN c t ≤ d → 3 * d ≤ f → p + d ≤ 90 → r 30 14 = nI p → r 30 22 ≠ -3 →
  ∃ (v : Int32) (c' r' : jS) (n' : Nat), xPutter_into f c (nI t) (nI x) (nI u) = some (v, c') ∧ fX c c' ∧ n ≤ n' ∧ Tm c' r' T n' ∧ AgX n c c' ∧ AgM n r r' ∧ fS p r r' ∧ m_putOf_L23 v4 (pshP r p (nI t) (nI x) (nI u)) = m_putOf_L23 v4 r' ∧
    ((v = -3 ∧ r' 30 22 = -3) ∨ ∃ t', t' < n' ∧ v = nI t' ∧ r' 30 14 = nI p ∧ r' 30 22 = nI t' ∧ dpN c' t' + 1 ≤ dpN c t + dpN c u ∧ (t' = t ∨ t' = u ∨ n ≤ t'))
def Eb (r : jS) (p t : Nat) (s A B X U : Int32) : Prop := r 43 p = nI t ∧ r 44 p = s ∧ r 45 p = A ∧ r 46 p = B ∧ r 48 p = X ∧ r 49 p = U
theorem Eb_keep {r r' : jS} {p t : Nat} {s A B X U : Int32} (h : fS (p + 1) r r') (e : Eb r p t s A B X U) : Eb r' p t s A B X U := by
  obtain ⟨e1, e2, e3, e4, e5, e6⟩ := e
  have k : ∀ q, 43 ≤ q → q ≤ 49 → r' q p = r q p := fun q h1 h2 => h.2.2 q h1 h2 p (by omega)
  exact ⟨(k 43 (by omega) (by omega)).trans e1, (k 44 (by omega) (by omega)).trans e2, (k 45 (by omega) (by omega)).trans e3, (k 46 (by omega) (by omega)).trans e4, (k 48 (by omega) (by omega)).trans e5, (k 49 (by omega) (by omega)).trans e6⟩
theorem dp_keep {n t : Nat} {c c' : jS} (h : AgX n c c') (ht : t < n) : dpN c' t = dpN c t := by unfold dpN; rw [h 14 (by omega) (by omega) t ht]
theorem n3 : ¬ (0 : Int32) ≤ -3 := by decide
set_option maxHeartbeats 1000000 in
theorem body_sim {T d : Nat} (ih : Put T d) {f t x u k y b : Nat} {ty oa ob' od : Option Nat} {c r r0 : jS} {n p : Nat} {v4 s A : Int32} {B : Int32} (hT : Ty c r T) (hM : Tm c r T n) (ht : t < n) (hx : x < 26) (hu : u < n) (hN : Nod c r T t k (some y) ty oa ob' od) (hk : k = 2 ∨ k = 4) (hb : r 39 (3 * t + bdy k) = nI b) (hbt : b < t) (hd : dpN c b ≤ d) (hf : 3 * d ≤ f) (hp : p + 1 + d ≤ 90) (hp1 : p + 1 < 90) (h14 : r 30 14 = nI (p + 1)) (hg : r 30 22 ≠ -3) (hE : Eb r p t s A B (nI x) (nI u)) (hc : ¬ (k = 4 ∧ (y = x ∨ ¬ 0 < frN r b x)))
    (hst : ∀ r', m_putBody r (nI p) (nI t) 0 = some ((), r') → m_putOf_L23 v4 r0 = m_putOf_L23 v4 r') :
    ∃ (zv w : Int32) (c' r' : jS) (n' : Nat), xPutter_letterFor c (nI y) (nI b) (nI u) = some zv ∧ xPutter_intoBody (f + 1) c (nI b) (nI y) zv (nI x) (nI u) = some (w, c') ∧ fX c c' ∧ n ≤ n' ∧ Tm c' r' T n' ∧ AgX n c c' ∧ AgM n r r' ∧ fS p r r' ∧ m_putOf_L23 v4 r0 = m_putOf_L23 v4 r' ∧
      ((w = -3 ∧ r' 30 22 = -3) ∨ ∃ b' z', z' < 26 ∧ zv = nI z' ∧ b' < n' ∧ w = nI b' ∧ r' 30 22 = nI b' ∧ r' 30 14 = nI (p + 1) ∧ Eb r' p t 13 A zv (nI x) (nI u) ∧ dpN c' b' + 1 ≤ dpN c b + dpN c u) := by
  have h4 := hM.2.2.1
  obtain ⟨hs0, ⟨c6, c8, -⟩, -⟩ := id hN
  obtain ⟨hk7, -, hly, -⟩ := id hs0
  have hy : y < 26 := hly y rfl
  obtain ⟨e43, e44, e45, e46, e48, e49⟩ := id hE
  have hbn : b < n := by omega
  have P0 := pb0 (b := b) hM ht (by omega) hk7 c6 c8 hy hx hbn e48 e49 hb
  rw [if_neg hc] at P0
  have hM2 : Tm c (su r 46 p (nI y)) T n := Tm_r (AgM_su AgM.rf (by omega)) rfl hM
  have gp : ∀ {α : Type} {x : Option α}, gd (ix (nI p) 90) x = x := fun {α x} => gd_t (ix_nI (by omega) (by decide))
  have fy : frN (su r 46 p (nI y)) u y = frN r u y := rfl
  unfold xPutter_letterFor
  rw [xPutter_intoBody_s]
  unfold b_xPutter_intoBody
  rw [x_isFree hM hu hy, ob_s]
  by_cases hfr : 0 < frN r u y
  · -- a new letter
    rw [if_pos hfr, if_neg n10]
    obtain ⟨zv, q1, q2, q3⟩ := nl_L hM2 hbn hu 26 0 rfl
    have q2' : m_newLetter (su r 46 p (nI y)) (nI b) (nI u) = some zv := q2
    refine ⟨zv, ?_⟩
    rcases q3 with rfl | ⟨z', hz', rfl, hnz⟩
    · -- none is left
      have hP : m_putBody r (nI p) (nI t) 0 = some ((), su (su (su r 46 p (nI y)) 30 22 (-3)) 46 p (-3)) := by
        rw [P0]
        unfold m_putBody_P110 m_putBody_P181
        rw [m_isFr hM2 hu hy, ob_s, fy, if_pos hfr, if_neg n10, q2', ob_s, if_pos rfl, ltS, gp, ltS, nI_clamp (by omega), if_pos (show (su (su (su r 46 p (nI y)) 30 22 (-3)) 46 p (-3)) 30 22 = -3 from (by show upd (r 30) 22 (-3) 22 = -3; exact upd_s))]
      refine ⟨-3, c, _, n, q1, by rw [if_neg n3], fX.rf, Nat.le_refl n, ?_, AgX.rf, ?_, ?_, hst _ hP, Or.inl ⟨rfl, ?_⟩⟩
      · exact Tm_r (AgM_su (AgM_30 (AgM_su AgM.rf (by omega))) (by omega)) (by show upd (r 30) 22 (-3) 5 = _; exact upd_n (by omega)) hM
      · exact AgM_su (AgM_30 (AgM_su AgM.rf (by omega))) (by omega)
      · exact fS_su (fS_30 (fS_su fS.rf (by omega) (by omega) (Nat.le_refl p)) (by omega)) (by omega) (by omega) (Nat.le_refl p)
      · show upd (r 30) 22 (-3) 22 = -3; exact upd_s
    · have hzy : ¬ nI z' = nI y := fun e => by
        have := (nI_eq (by omega) (by omega)).mp e
        subst this
        exact hnz hfr
      have T2 : Ty c (su r 46 p (nI y)) T := Ty_S (p := p) fX.rf (fS_su fS.rf (by omega) (by omega) (Nat.le_refl p)) hT
      obtain ⟨v, c1, r1, f1, f2, fx1, fm1, ax1, am1, h1⟩ := MK (k := 1) (lx := some z') (ty := none) (oa := none) (ob := none) (od := none) T2 hM2 (by decide) ⟨by decide, rfl, lo_s hz', lo_n, lo_n, lo_n, lo_n⟩
      have en : xTerms_newName c (nI z') = some (v, c1) := by
        unfold xTerms_newName
        rw [show xTerms_made c 1 (nI z') (-2) (-2) (-2) (-2) = some (v, c1) from f1, bd_s]
      have AM1 : AgM n r (su (su r1 30 22 v) 46 p (nI z')) := AgM_su (AgM_30 ((AgM_su AgM.rf (by omega)).tr (Nat.le_refl n) am1)) (by omega)
      have FS1 : fS p r (su (su r1 30 22 v) 46 p (nI z')) := fS_su (fS_30 ((fS_su fS.rf (by omega) (by omega) (Nat.le_refl p)).tr (Nat.le_refl p) (fS_M fm1)) (by omega)) (by omega) (by omega) (Nat.le_refl p)
      have hP : m_putBody r (nI p) (nI t) 0 = if v = -3 then some ((), su (su r1 30 22 v) 46 p (nI z')) else some ((), pshP (su (su (su r1 30 22 v) 46 p (nI z')) 44 p 12) (p + 1) (nI b) (nI y) v) := by
        rw [P0]
        unfold m_putBody_P110 m_putBody_P181
        have g22 : (su (su r1 30 22 v) 46 p (nI z')) 30 22 = v := by show upd (r1 30) 22 v 22 = v; exact upd_s
        have g14 : (su (su (su r1 30 22 v) 46 p (nI z')) 44 p 12) 30 14 = nI (p + 1) := by
          show upd (r1 30) 22 v 14 = _
          rw [upd_n (by omega), fm1.2 14 (by omega)]
          exact h14
        rw [m_isFr hM2 hu hy, ob_s, fy, if_pos hfr, if_neg n10, q2', ob_s, if_neg (nI_ne (by omega) (by decide)), show m_make (su r 46 p (nI y)) 1 0 (nI z') (-2) (-2) (-2) (-2) = some (v, r1) from f2, bd_s, ltS, gp, ltS, nI_clamp (by omega), g22, gp, ltS, show (su (su (su r1 30 22 v) 46 p (nI z')) 44 p 12) 30 22 = v from g22, m_pushPut_t g14 hp1, bd_s]
      rw [if_pos (nI_pos' (by omega)), if_neg hzy, en, bd_s]
      rcases h1 with ⟨rfl, rfl, hM1⟩ | ⟨rfl, hn4, hM1, hN1⟩
      · rw [if_pos rfl] at hP
        refine ⟨-3, c1, _, n, q1, by rw [if_neg n3], fx1, Nat.le_refl n, ?_, ax1, AM1, FS1, hst _ hP, Or.inl ⟨rfl, ?_⟩⟩
        · exact Tm_r (AgM_su (AgM_30 AgM.rf) (by omega)) (by show upd (r1 30) 22 (-3) 5 = _; exact upd_n (by omega)) hM1
        · show upd (r1 30) 22 (-3) 22 = -3; exact upd_s
      · rw [if_neg (nI_ne (by omega) (by decide))] at hP
        rw [if_pos (nI_pos' (by omega))]
        -- the renaming
        have FS2 : fS p r (su (su (su r1 30 22 (nI n)) 46 p (nI z')) 44 p 12) := fS_su FS1 (by omega) (by omega) (Nat.le_refl p)
        have AM2 : AgM n r (su (su (su r1 30 22 (nI n)) 46 p (nI z')) 44 p 12) := AgM_su AM1 (by omega)
        have hM3 : Tm c1 (su (su (su r1 30 22 (nI n)) 46 p (nI z')) 44 p 12) T (n + 1) := Tm_r (AgM_su (AgM_su (AgM_30 AgM.rf) (by omega)) (by omega)) (by show upd (r1 30) 22 (nI n) 5 = _; exact upd_n (by omega)) hM1
        have k43 : ∀ q, 43 ≤ q → q ≤ 49 → q ≠ 46 → r1 q p = r q p := fun q g1 g2 g3 => by rw [fm1.1 q (by omega) (by omega), su_ne g3]
        have E2 : Eb (su (su (su r1 30 22 (nI n)) 46 p (nI z')) 44 p 12) p t 12 A (nI z') (nI x) (nI u) := by
          refine ⟨(k43 43 (by omega) (by omega) (by omega)).trans e43, ?_, (k43 45 (by omega) (by omega) (by omega)).trans e45, ?_, (k43 48 (by omega) (by omega) (by omega)).trans e48, (k43 49 (by omega) (by omega) (by omega)).trans e49⟩
          · show upd (r1 44) p 12 p = 12; exact upd_s
          · show upd (r1 46) p (nI z') p = _; exact upd_s
        have dn : dpN c1 n = 1 := by
          obtain ⟨-, -, ⟨-, hdn⟩, -⟩ := hN1
          simpa [oz] using hdn
        have g14 : (su (su (su r1 30 22 (nI n)) 46 p (nI z')) 44 p 12) 30 14 = nI (p + 1) := by
          show upd (r1 30) 22 (nI n) 14 = _
          rw [upd_n (by omega), fm1.2 14 (by omega)]
          exact h14
        have g22 : (su (su (su r1 30 22 (nI n)) 46 p (nI z')) 44 p 12) 30 22 = nI n := by show upd (r1 30) 22 (nI n) 22 = _; exact upd_s
        obtain ⟨w, c2, r2, n2, i1, fx2, hn2, hM2', ax2, am2, fs2, el2, h2⟩ := ih f b y n c1 _ (n + 1) (p + 1) v4 (Ty_S fx1 FS2 hT) hM3 (by omega) hy (by omega) (by rw [dp_keep ax1 hbn]; exact hd) hf hp g14 (by rw [g22]; exact nI_ne (by omega) (by decide))
        rw [i1, bd_s]
        have A3 := AM2.tr (Nat.le_succ n) am2
        have X3 := ax1.tr (Nat.le_succ n) ax2
        have S3 := FS2.tr (Nat.le_succ p) fs2
        rcases h2 with ⟨rfl, g2⟩ | ⟨q, hq, rfl, g2a, g2b, hdq, -⟩
        · refine ⟨-3, c2, r2, n2, q1, by rw [if_neg n3], fx1.tr fx2, by omega, hM2', X3, A3, S3, (hst _ hP).trans el2, Or.inl ⟨rfl, g2⟩⟩
        · have hn24 := hM2'.2.2.1
          rw [if_pos (nI_pos' (by omega))]
          have E3 := Eb_keep fs2 E2
          obtain ⟨m43, m44, m45, m46, m48, m49⟩ := id E3
          have hC2 : c2 6 t = nI k := (X3 6 (by omega) (by omega) t ht).trans c6
          have hB2 : r2 39 (3 * t + bdy k) = nI b := (A3.2.1 _ (by unfold bdy; by_cases k4 : k = 4 <;> simp [k4] <;> omega)).trans hb
          have hE3 : EnP r2 p t 12 A (nI z') (r2 47 p) (nI x) (nI u) := ⟨⟨g2a, m43, m44, m45, m46, rfl⟩, m48, m49⟩
          have hM4 : Tm c2 (su r2 44 p (nI 13)) T n2 := Tm_r (AgM_su AgM.rf (by omega)) rfl hM2'
          have turn : m_putTurn r2 = some ((), pshP (su (su r2 44 p (nI 13)) 44 p 13) (p + 1) (nI q) (nI x) (nI u)) := by
            rw [bt_late hM2' (by omega) hE3 (by omega) (Or.inl rfl) hx hk hC2]
            have := pb2 (b := b) hM4 (by omega) hp1 hk7 hC2 (show (su r2 44 p (nI 13)) 30 14 = nI (p + 1) from g2a) m48 m49 hB2
            rw [show (su r2 44 p (nI 13)) 30 22 = nI q from g2b] at this
            exact this
          have el3 := put_step (v4 := v4) g2a (by omega) (by rw [g2b]; exact nI_ne (by omega) (by decide)) turn
          have FS4 : fS p r2 (su (su r2 44 p (nI 13)) 44 p 13) := fS_su (fS_su fS.rf (by omega) (by omega) (Nat.le_refl p)) (by omega) (by omega) (Nat.le_refl p)
          have hM5 : Tm c2 (su (su r2 44 p (nI 13)) 44 p 13) T n2 := Tm_r (AgM_su (AgM_su AgM.rf (by omega)) (by omega)) rfl hM2'
          have E4 : Eb (su (su r2 44 p (nI 13)) 44 p 13) p t 13 A (nI z') (nI x) (nI u) := ⟨m43, (show upd (upd (r2 44) p _) p 13 p = 13 from upd_s), m45, m46, m48, m49⟩
          have hdq2 : dpN c2 q ≤ d := by
            rw [dp_keep ax1 hbn, dn] at hdq
            omega
          obtain ⟨w, c5, r5, n5, i5, fx5, hn5, hM6, ax5, am5, fs5, el5, h5⟩ := ih f q x u c2 _ n2 (p + 1) v4 (Ty_S (p := p) (fx1.tr fx2) (S3.tr (Nat.le_refl p) FS4) hT) hM5 hq hx (by omega) hdq2 hf hp (show (su (su r2 44 p (nI 13)) 44 p 13) 30 14 = nI (p + 1) from g2a) (show (su (su r2 44 p (nI 13)) 44 p 13) 30 22 ≠ -3 from by rw [show (su (su r2 44 p (nI 13)) 44 p 13) 30 22 = nI q from g2b]; exact nI_ne (by omega) (by decide))
          rw [i5, bd_s]
          have A5 := (A3.tr (by omega) (AgM_su (AgM_su (AgM.rf (n := n2)) (by omega)) (by omega))).tr (by omega) am5
          have X5 := X3.tr (by omega) ax5
          have S5 := (S3.tr (Nat.le_refl p) FS4).tr (Nat.le_succ p) fs5
          refine ⟨w, c5, r5, n5, q1, rfl, (fx1.tr fx2).tr fx5, by omega, hM6, X5, A5, S5, (((hst _ hP).trans el2).trans el3).trans el5, ?_⟩
          rcases h5 with h5 | ⟨b', hb', rfl, g5a, g5b, hd5, -⟩
          · exact Or.inl h5
          · refine Or.inr ⟨b', z', hz', rfl, hb', rfl, g5b, g5a, Eb_keep fs5 E4, ?_⟩
            rw [dp_keep X3 hu] at hd5
            rw [dp_keep ax1 hbn, dn] at hdq
            omega
  · -- the letter stays
    rw [if_neg hfr, if_pos rfl]
    have hP : m_putBody r (nI p) (nI t) 0 = some ((), pshP (su (su r 46 p (nI y)) 44 p 13) (p + 1) (nI b) (nI x) (nI u)) := by
      rw [P0]
      unfold m_putBody_P110
      rw [m_isFr hM2 hu hy, ob_s, fy, if_neg hfr, if_pos rfl, gp, ltS, nI_clamp (by omega), m_pushPut_t (p := p + 1) (show (su (su r 46 p (nI y)) 44 p 13) 30 14 = nI (p + 1) from h14) hp1, bd_s]
    have FS1 : fS p r (su (su r 46 p (nI y)) 44 p 13) := fS_su (fS_su fS.rf (by omega) (by omega) (Nat.le_refl p)) (by omega) (by omega) (Nat.le_refl p)
    have AM1 : AgM n r (su (su r 46 p (nI y)) 44 p 13) := AgM_su (AgM_su AgM.rf (by omega)) (by omega)
    have E1 : Eb (su (su r 46 p (nI y)) 44 p 13) p t 13 A (nI y) (nI x) (nI u) := ⟨e43, (show upd (r 44) p 13 p = 13 from upd_s), e45, (show upd (r 46) p (nI y) p = _ from upd_s), e48, e49⟩
    obtain ⟨w, c2, r2, n2, i1, fx2, hn2, hM2', ax2, am2, fs2, el2, h2⟩ := ih f b x u c _ n (p + 1) v4 (Ty_S fX.rf FS1 hT) (Tm_r AM1 rfl hM) hbn hx hu hd hf hp h14 hg
    refine ⟨nI y, w, c2, r2, n2, rfl, by rw [if_pos (nI_pos' (by omega)), if_pos rfl, i1, bd_s], fx2, hn2, hM2', ax2, AM1.tr (Nat.le_refl n) am2, FS1.tr (Nat.le_succ p) fs2, (hst _ hP).trans el2, ?_⟩
    rcases h2 with h2 | ⟨b', hb', rfl, g2a, g2b, hd2, -⟩
    · exact Or.inl h2
    · exact Or.inr ⟨b', y, hy, rfl, hb', rfl, g2b, g2a, Eb_keep fs2 E1, hd2⟩
