def Fl (r' : jS) (v : Int32) : Prop := (v = -3 ∧ r' 30 42 = 2) ∨ ∃ P, P ≤ 600 ∧ v = -10 - nI P ∧ r' 30 42 = 1 ∧ r' 30 41 = nI P
theorem wr_neg : ∀ P, P < 601 → ¬ (0 : Int32) ≤ -10 - nI P := by decide +kernel
theorem Fl_neg {r : jS} {v : Int32} (h : Fl r v) : ¬ (0 : Int32) ≤ v := by
  rcases h with ⟨rfl, -⟩ | ⟨P, hP, rfl, -⟩
  · decide
  · exact wr_neg P (by omega)
theorem Fl_42 {r : jS} {v : Int32} (h : Fl r v) : ¬ r 30 42 = 0 := by
  rcases h with ⟨-, h⟩ | ⟨P, -, -, h, -⟩ <;> rw [h] <;> decide
theorem Fl_tk {M P : Nat} {c r r' : jS} (h : Tk M c r P) (h41 : r' 30 41 = r 30 41) (h42 : r' 30 42 = 1) : Fl r' (-10 - nI P) :=
  Or.inr ⟨P, by have := h.2.1; have := h.2.2.2.2.1; omega, rfl, h42, h41.trans h.2.2.2.1⟩
def fTX (T : Nat) (c c' : jS) : Prop := (∀ p, p = 0 ∨ 4 < p → p ≠ 28 → c' p = c p) ∧ (∀ i, i < T → c' 2 i = c 2 i ∧ c' 3 i = c 3 i ∧ c' 4 i = c 4 i) ∧ ∀ k, k ≠ 4 → c' 28 k = c 28 k
def fTM (T m : Nat) (r r' : jS) : Prop := (∀ q, q < 30 ∨ (33 < q ∧ q < 57) ∨ 58 < q → r' q = r q) ∧ (∀ k, k ≠ 0 → k ≠ 41 → k ≠ 42 → r' 30 k = r 30 k) ∧ (∀ i, i < T → r' 31 i = r 31 i ∧ r' 32 i = r 32 i ∧ r' 33 i = r 33 i) ∧ ∀ i, i < m → r' 57 i = r 57 i ∧ r' 58 i = r 58 i
theorem fTX.rf {T : Nat} {c : jS} : fTX T c c := ⟨fun _ _ _ => rfl, fun _ _ => ⟨rfl, rfl, rfl⟩, fun _ _ => rfl⟩
theorem fTM.rf {T m : Nat} {r : jS} : fTM T m r r := ⟨fun _ _ => rfl, fun _ _ _ _ => rfl, fun _ _ => ⟨rfl, rfl, rfl⟩, fun _ _ => ⟨rfl, rfl⟩⟩
theorem fTX.tr {T T' : Nat} {a b c : jS} (hT : T ≤ T') (h : fTX T a b) (h' : fTX T' b c) : fTX T a c :=
  ⟨fun p hp h28 => (h'.1 p hp h28).trans (h.1 p hp h28), fun i hi => ⟨(h'.2.1 i (by omega)).1.trans (h.2.1 i hi).1, (h'.2.1 i (by omega)).2.1.trans (h.2.1 i hi).2.1, (h'.2.1 i (by omega)).2.2.trans (h.2.1 i hi).2.2⟩, fun k hk => (h'.2.2 k hk).trans (h.2.2 k hk)⟩
theorem fTM.tr {T T' m m' : Nat} {a b c : jS} (hT : T ≤ T') (hm : m ≤ m') (h : fTM T m a b) (h' : fTM T' m' b c) : fTM T m a c :=
  ⟨fun q hq => (h'.1 q hq).trans (h.1 q hq), fun k h1 h2 h3 => (h'.2.1 k h1 h2 h3).trans (h.2.1 k h1 h2 h3), fun i hi => ⟨(h'.2.2.1 i (by omega)).1.trans (h.2.2.1 i hi).1, (h'.2.2.1 i (by omega)).2.1.trans (h.2.2.1 i hi).2.1, (h'.2.2.1 i (by omega)).2.2.trans (h.2.2.1 i hi).2.2⟩, fun i hi => ⟨(h'.2.2.2 i (by omega)).1.trans (h.2.2.2 i hi).1, (h'.2.2.2 i (by omega)).2.trans (h.2.2.2 i hi).2⟩⟩
theorem fTX_T {T : Nat} {c c' : jS} (h : fXT T c c') : fTX T c c' := ⟨fun p hp _ => h.1 p hp, h.2, fun k _ => by rw [h.1 28 (by omega)]⟩
theorem fTM_T {T m : Nat} {r r' : jS} (h : fMT T r r') : fTM T m r r' := ⟨fun q hq => h.1 q (by omega), fun k h1 _ _ => h.2.1 k h1, h.2.2, fun i _ => by rw [h.1 57 (by omega), h.1 58 (by omega)]; exact ⟨rfl, rfl⟩⟩
theorem fTX_su {T : Nat} {c c' : jS} {v : Int32} (h : fTX T c c') : fTX T c (su c' 28 4 v) :=
  ⟨fun p hp h28 => by rw [su_ne h28]; exact h.1 p hp h28, fun i hi => by rw [su_ne (by omega), su_ne (by omega), su_ne (by omega)]; exact h.2.1 i hi, fun k hk => by rw [su_row, upd_n hk]; exact h.2.2 k hk⟩
theorem fTM_su {T m q i : Nat} {r r' : jS} {v : Int32} (h : fTM T m r r') (hq : q = 57 ∨ q = 58) (hi : m ≤ i) : fTM T m r (su r' q i v) := by
  refine ⟨fun w g => by rw [su_ne (by omega)]; exact h.1 w g, fun k g1 g2 g3 => by rw [su_ne (by omega)]; exact h.2.1 k g1 g2 g3, fun j hj => by rw [su_ne (by omega), su_ne (by omega), su_ne (by omega)]; exact h.2.2.1 j hj, fun j hj => ?_⟩
  rcases hq with rfl | rfl
  · rw [su_row, upd_n (by omega), su_ne (by omega)]; exact h.2.2.2 j hj
  · rw [su_ne (by omega), su_row, upd_n (by omega)]; exact h.2.2.2 j hj
theorem fTM_30 {T m k : Nat} {r r' : jS} {v : Int32} (h : fTM T m r r') (hk : k = 41 ∨ k = 42) : fTM T m r (su r' 30 k v) :=
  ⟨fun w g => by rw [su_ne (by omega)]; exact h.1 w g, fun j g1 g2 g3 => by rw [su_row, upd_n (by omega)]; exact h.2.1 j g1 g2 g3, fun j hj => by rw [su_ne (by omega), su_ne (by omega), su_ne (by omega)]; exact h.2.2.1 j hj, fun j hj => by rw [su_ne (by omega), su_ne (by omega)]; exact h.2.2.2 j hj⟩
theorem bd_etaP {α : Type} {x : Option (α × jS)} : bd x (fun a c => some (a, c)) = x := by
  cases x with
  | none => rfl
  | some p => rfl
theorem tbh_t {M P k g : Nat} {L : Int32} {c r : jS} (h : Tk M c r P) (hk : k < 256) (hb : bt c P M = some k) : xReader_typeBehind (g + 1) c (nI k) L = xReader_typeHere g (su c 28 4 (nI (P + 1))) L := by
  rw [xReader_typeBehind_s]
  unfold b_xReader_typeBehind
  rw [pass_t h hk hb, bd_s, if_pos (by decide), bd_etaP]
theorem tbh_f {M P k g : Nat} {L : Int32} {c r : jS} (h : Tk M c r P) (hk : k < 256) (hb : ¬ bt c P M = some k) : xReader_typeBehind (g + 1) c (nI k) L = some (-10 - nI P, c) := by
  rw [xReader_typeBehind_s]
  unfold b_xReader_typeBehind
  rw [pass_f h hk hb, bd_s, if_neg (wr_neg P (by have := h.2.1; have := h.2.2.2.2.1; omega))]
theorem bty {B : Option Nat} (hB : lo 256 B) (c : jS) : xReader_beginsType c (bx B) = some (if B = some 105 ∨ B = some 40 then 1 else 0) := by
  unfold xReader_beginsType
  by_cases h1 : B = some 105
  · rw [if_pos (show bx B = 105 from (bx_eq (k := 105) hB (by omega)).mpr h1), if_pos (Or.inl h1)]
  · rw [if_neg (show ¬ bx B = 105 from fun e => h1 ((bx_eq (k := 105) hB (by omega)).mp e))]
    by_cases h2 : B = some 40
    · rw [if_pos (show bx B = 40 from (bx_eq (k := 40) hB (by omega)).mpr h2), if_pos (Or.inr h2)]
    · rw [if_neg (show ¬ bx B = 40 from fun e => h2 ((bx_eq (k := 40) hB (by omega)).mp e)), if_neg (fun e => e.elim h1 h2)]
theorem rt_end {a w z : Int32} {r : jS} (h : ¬ r 30 42 = 0) : m_readType_L7 a z w r = some (z, r) := by
  unfold m_readType_L7
  refine lp_inr ?_
  show m_readType_S7 a z w r = _
  unfold m_readType_S7
  rw [if_neg h]
theorem L7_s {a z w a' z' w' : Int32} {r r' : jS} (h : m_readType_S7 a z w r = some (Sum.inl (a', z', w', r'))) : m_readType_L7 a z w r = m_readType_L7 a' z' w' r' := by
  unfold m_readType_L7
  exact lp_inl h
def TS (M T m : Nat) (c r : jS) (v : Int32) (c' r' : jS) : Prop := ∃ T', T ≤ T' ∧ Ty c' r' T' ∧ fTX T c c' ∧ fTM T m r r' ∧
  ((∃ y P', y < T' ∧ v = nI y ∧ Tk M c' r' P' ∧ ∀ z, m_readType_L7 (nI m) z 1 r = m_readType_L7 (nI m) (nI y) 0 r') ∨ (Fl r' v ∧ ∀ z, ∃ w, m_readType_L7 (nI m) z 1 r = some (w, r')))
/-- the turns of the reference that want no type -/
theorem rt_gt {a : Nat} {y : Int32} {r : jS} (h42 : r 30 42 = 0) (ha : a < 44) (h58 : r 58 a = 0) {r1 : jS} (hm : m_must r (nI 62) = some ((), r1)) : m_readType_L7 (nI (a + 1)) y 0 r = m_readType_L7 (nI (a + 1)) y 1 (su (su r1 57 a y) 58 a 1) := by
  refine L7_s ?_
  unfold m_readType_S7 m_readType_P22_7 m_readType_P67_7 m_readType_P103_7
  have i1 : ix (nI a) 44 = true := ix_nI ha (by decide)
  rw [if_pos h42, if_pos rfl, if_neg (nI_nle (by omega) (by omega)), if_pos rfl, if_pos rfl, if_pos rfl, nI_pred, gd_t i1, nI_clamp (show a < 2 ^ 31 by omega), if_pos h58, show (62 : Int32) = nI 62 from rfl, hm, bd_s, gd_t i1, ltS, gd_t i1, ltS]
theorem rt_close {a : Nat} {y : Int32} {r : jS} (h42 : r 30 42 = 0) (ha : a < 44) (h58 : r 58 a = 1) {r1 : jS} (hm : m_must r (nI 41) = some ((), r1)) :
    m_readType_S7 (nI (a + 1)) y 0 r = (if r1 30 42 = 0 then bd (m_arrowOf r1 (r1 57 a) y) (fun r4 c5 => m_readType_P191_7 (nI a) 0 r4 c5) else m_readType_P191_7 (nI a) 0 0 r1) := by
  unfold m_readType_S7 m_readType_P22_7 m_readType_P67_7 m_readType_P103_7
  have i1 : ix (nI a) 44 = true := ix_nI ha (by decide)
  rw [if_pos h42, if_pos rfl, if_neg (nI_nle (by omega) (by omega)), if_pos rfl, if_pos rfl, if_pos rfl, nI_pred, gd_t i1, nI_clamp (show a < 2 ^ 31 by omega), h58, if_neg n10, show (41 : Int32) = nI 41 from rfl, hm, bd_s, gd_t i1]
theorem Ty_3 {c r : jS} {T k : Nat} {v : Int32} (hk : k ≠ 0) (h : Ty c r T) : Ty c (su r 30 k v) T :=
  Ty_r (fun _ _ _ => rfl) (by rw [su_row, upd_n (Ne.symm hk)]) (fun p h1 h2 => by rw [su_ne (by omega)]) h
theorem Ty_x28 {c r : jS} {T : Nat} {v : Int32} (h : Ty c r T) : Ty (su c 28 4 v) r T :=
  Ty_r (fun q h1 h2 => by rw [su_ne (by omega)]) rfl (fun _ _ _ => rfl) h
theorem Ty_m {c r : jS} {T q i : Nat} {v : Int32} (hq : 34 ≤ q) (h : Ty c r T) : Ty c (su r q i v) T :=
  Ty_r (fun _ _ _ => rfl) (by rw [su_ne (by omega)]) (fun p h1 h2 => by rw [su_ne (by omega)]) h
