def RD (M : Nat) (a b : Int32) (d : Nat) : Prop := ∀ (f l p : Nat) (c r : jS) (T n P : Nat), l + d = 41 → l = p + 1 → 3 * d + 1 ≤ f → Ty c r T → Tm c r T n → Tk M c r P → r 30 14 = nI p → r 30 22 = -2 →
  ∃ v c' r', xReader_termHere f c (nI l) = some (v, c') ∧ m_read_L31 a b r = m_read_L31 a b r' ∧ RS M T n p c r v c' r'
/-- what a part leaves, above its entry -/
def RP (M T n p K s : Nat) (A B C X U : Int32) (c r : jS) (v : Int32) (c' r' : jS) : Prop := ∃ T' n', T ≤ T' ∧ n ≤ n' ∧ Ty c' r' T' ∧ Tm c' r' T' n' ∧ fRX T n c c' ∧ fRM T n p r r' ∧
  ((∃ P' t, t < n' ∧ v = nI t ∧ Tk M c' r' P' ∧ EnP r' p K s A B C X U ∧ r' 30 22 = nI t) ∨ Fl r' v)
theorem EnP_keep {r r' : jS} {T n p K s : Nat} {A B C X U : Int32} (E : EnP r p K s A B C X U) (fm : fRM T n (p + 1) r r') (h14 : r' 30 14 = nI (p + 1)) : EnP r' p K s A B C X U := by
  obtain ⟨⟨e1, e2, e3, e4, e5, e6⟩, e7, e8⟩ := E
  have g := fun q h1 h2 => fm.2.2.2.2 q h1 h2 p (Nat.lt_succ_self p)
  exact ⟨⟨h14, (g 43 (by omega) (by omega)).trans e2, (g 44 (by omega) (by omega)).trans e3, (g 45 (by omega) (by omega)).trans e4, (g 46 (by omega) (by omega)).trans e5, (g 47 (by omega) (by omega)).trans e6⟩, (g 48 (by omega) (by omega)).trans e7, (g 49 (by omega) (by omega)).trans e8⟩
theorem RP_RS {M T n p K s : Nat} {A B C X U v : Int32} {c r c' r' : jS} (E : EnP r p K s A B C X U) (h : RS M T n (p + 1) c r v c' r') : RP M T n p K s A B C X U c r v c' r' := by
  obtain ⟨T', n', a1, a2, a3, a4, a5, a6, a7⟩ := h
  refine ⟨T', n', a1, a2, a3, a4, a5, fRM_mono (by omega) a6, ?_⟩
  rcases a7 with ⟨P', t, b1, b2, b3, b4, b5⟩ | a7
  · exact Or.inl ⟨P', t, b1, b2, b3, EnP_keep E a6 b4, b5⟩
  · exact Or.inr a7
theorem RP_seq {M T T1 n n1 p K s : Nat} {A B C X U v : Int32} {c c1 c' r r1 r' : jS} (hT : T ≤ T1) (hn : n ≤ n1) (fx : fRX T n c c1) (fm : fRM T n p r r1) (h : RP M T1 n1 p K s A B C X U c1 r1 v c' r') : RP M T n p K s A B C X U c r v c' r' := by
  obtain ⟨T', n', a1, a2, a3, a4, a5, a6, a7⟩ := h
  exact ⟨T', n', by omega, by omega, a3, a4, fx.tr hT hn a5, fm.tr hT hn (Nat.le_refl p) a6, a7⟩
/-- a part that went wrong: so does the term -/
theorem RS_Fl {M T n p K s : Nat} {A B C X U v : Int32} {c c' r r' : jS} {T' n' : Nat} (a1 : T ≤ T') (a2 : n ≤ n') (a3 : Ty c' r' T') (a4 : Tm c' r' T' n') (a5 : fRX T n c c') (a6 : fRM T n p r r') (hF : Fl r' v) : RS M T n p c r v c' r' := ⟨T', n', a1, a2, a3, a4, a5, a6, Or.inr hF⟩
theorem bd_etaI {x : Option (Int32 × jS)} : bd x (fun a c => some (a, c)) = x := by
  cases x with
  | none => rfl
  | some p => rfl
theorem tb_t {M P k g : Nat} {L : Int32} {c r : jS} (h : Tk M c r P) (hk : k < 256) (hb : bt c P M = some k) : xReader_termBehind (g + 1) c (nI k) L = xReader_termHere g (su c 28 4 (nI (P + 1))) L := by
  rw [xReader_termBehind_s]
  unfold b_xReader_termBehind
  rw [pass_t h hk hb, bd_s, if_pos (by decide), bd_etaI]
theorem tb_f {M P k g : Nat} {L : Int32} {c r : jS} (h : Tk M c r P) (hk : k < 256) (hb : ¬ bt c P M = some k) : xReader_termBehind (g + 1) c (nI k) L = some (-10 - nI P, c) := by
  rw [xReader_termBehind_s]
  unfold b_xReader_termBehind
  rw [pass_f h hk hb, bd_s, if_neg (wr_neg P (by have := h.2.1; have := h.2.2.2.2.1; omega))]
/-- a byte that must be there, and a term behind it -/
theorem rd_tb {M d g l p P k K s T n : Nat} {a b A B C X U : Int32} {c R : jS} (ih : RD M a b d) (hl : l + 1 + d = 41) (hp : l = p + 1) (hg : 3 * d + 1 ≤ g) (hk : k < 256) (hT : Ty c R T) (hM : Tm c R T n) (hK : Tk M c R P) (E : EnP R p K s A B C X U) (h22 : R 30 22 = -2) :
    ∃ R1 v c' r', m_must R (nI k) = some ((), R1) ∧ xReader_termBehind (g + 1) c (nI k) (nI l + 1) = some (v, c') ∧ m_read_L31 a b R1 = m_read_L31 a b r' ∧ RP M T n p K s A B C X U c R v c' r' := by
  by_cases hb : bt c P M = some k
  · have hP := bt_s hb
    have E1 : EnP (su R 30 41 (nI (P + 1))) p K s A B C X U := E
    obtain ⟨v, c', r', q1, q2, h⟩ := ih g (l + 1) (p + 1) (su c 28 4 (nI (P + 1))) (su R 30 41 (nI (P + 1))) T n (P + 1) (by omega) (by omega) hg (Ty_next hT) (Tm_next hM) (Tk_next hK hP) E.1.1 h22
    exact ⟨_, v, c', r', must_t hK hk hb, by rw [tb_t hK hk hb, nI_1]; exact q1, q2, RP_seq (Nat.le_refl T) (Nat.le_refl n) (fRX_su fRX.rf) (fRM_30 fRM.rf (by omega)) (RP_RS E1 h)⟩
  · refine ⟨_, _, c, _, must_f hK hk hb, tb_f hK hk hb, rfl, ?_⟩
    obtain ⟨T', n', a1, a2, a3, a4, a5, a6, a7⟩ := RS_wr (p := p + 1) hT hM hK
    refine ⟨T', n', a1, a2, a3, a4, a5, fRM_mono (by omega) a6, Or.inr ?_⟩
    exact Fl_tk hK (by rw [su_row, upd_n (by omega)]) (by rw [su_row, upd_s])
/-- the end of a term: its make -/
theorem rd_mk {M T n p P K s : Nat} {A B C X U : Int32} {c R : jS} {lx ty oa ob' od : Option Nat} (hT : Ty c R T) (hM : Tm c R T n) (hK : Tk M c R P) (E : EnP R p K s A B C X U) (hp : p < 90) (hk : K ≠ 0) (hs : shp T n K lx ty oa ob' od) (hX : pv lx = if K = 2 ∨ K = 4 then X else -2) (hU : pv ty = if K = 2 then U else -2) (hA : pv oa = A) (hB : pv ob' = B) (hC : pv od = C) :
    ∃ v c' r', xTerms_made c (nI K) (pv lx) (pv ty) (pv oa) (pv ob') (pv od) = some (v, c') ∧ m_readPart_P238 (nI p) (nI K) R = some ((), r') ∧ RS M T n p c R v c' r' := by
  have k14 : kR R (su R 30 14 (nI p)) := kR_30 kR.rf (by omega)
  obtain ⟨v, c', r1, r', e1, e2, e3, h⟩ := rmk (p := p) (kR_Ty k14 hT) (kR_Tm k14 hM) (kR_Tk k14 hK) (by rw [su_row, upd_s]) hk hs
  refine ⟨v, c', r', e1, ?_, RS_seq (Nat.le_refl T) (Nat.le_refl n) fRX.rf (fRM_30 fRM.rf (by omega)) h⟩
  rw [r238 E hp hs.1 hK.2.2.2.2.2, ← hX, ← hU, ← hA, ← hB, ← hC, e2, bd_s, e3, bd_s]
/-- a byte that must be there, and the make behind it -/
theorem rd_cl {M T n p P K s k : Nat} {A B C X U : Int32} {c R : jS} {lx ty oa ob' od : Option Nat} (hkk : k < 256) (hT : Ty c R T) (hM : Tm c R T n) (hK : Tk M c R P) (E : EnP R p K s A B C X U) (hp : p < 90) (hk : K ≠ 0) (hs : shp T n K lx ty oa ob' od) (hX : pv lx = if K = 2 ∨ K = 4 then X else -2) (hU : pv ty = if K = 2 then U else -2) (hA : pv oa = A) (hB : pv ob' = B) (hC : pv od = C) :
    ∃ v c' r', bd (xReader_pass c (nI k)) (fun r7 c8 => if 0 ≤ r7 then xTerms_made c8 (nI K) (pv lx) (pv ty) (pv oa) (pv ob') (pv od) else some (r7, c8)) = some (v, c') ∧ bd (m_must R (nI k)) (fun _ c6 => m_readPart_P238 (nI p) (nI K) c6) = some ((), r') ∧ RS M T n p c R v c' r' := by
  by_cases hb : bt c P M = some k
  · have hP := bt_s hb
    have E1 : EnP (su R 30 41 (nI (P + 1))) p K s A B C X U := E
    obtain ⟨v, c', r', e1, e2, h⟩ := rd_mk (Ty_next hT) (Tm_next hM) (Tk_next hK hP) E1 hp hk hs hX hU hA hB hC
    exact ⟨v, c', r', by rw [pass_t hK hkk hb, bd_s, if_pos (by decide), e1], by rw [must_t hK hkk hb, bd_s, e2], RS_seq (Nat.le_refl T) (Nat.le_refl n) (fRX_su fRX.rf) (fRM_30 fRM.rf (by omega)) h⟩
  · refine ⟨_, c, _, by rw [pass_f hK hkk hb, bd_s, if_neg (wr_neg P (by have := hK.2.1; have := hK.2.2.2.2.1; omega))], by rw [must_f hK hkk hb, bd_s, r238_n (by rw [su_row, upd_s]; decide)], RS_wr hT hM hK⟩
