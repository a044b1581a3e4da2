def Gd (B : Option Nat) : Prop := (∃ x, x < 26 ∧ B = some (97 + x)) ∨ (∃ d, d ≤ 9 ∧ B = some (48 + d)) ∨ B = some 45 ∨ B = some 92 ∨ B = some 40 ∨ B = some 91 ∨ B = some 123
theorem bg_t {B : Option Nat} (hB : lo 256 B) (c r : jS) (h : Gd B) : xReader_beginsTerm c (bx B) = some 1 ∧ m_begins r (bm B) = some 1 := by
  unfold xReader_beginsTerm m_begins
  have X : ∀ k, k < 256 → (bx B = nI k ↔ B = some k) := fun k hk => bx_eq hB hk
  have Y : ∀ k, k < 256 → (bm B = nI k ↔ B = some k) := fun k hk => bm_eq hB hk
  rcases dig_cases hB c r with ⟨d, hd, hb, e3, e4⟩ | ⟨hn, e3, e4⟩
  · rcases let_cases hB c r with ⟨x, hx, hb2, -⟩ | ⟨-, -, f4⟩
    · rw [hb] at hb2; simp at hb2; omega
    · rw [e3, ob_s, if_neg n10, f4, ob_s, if_pos rfl, e4, ob_s, if_neg n10]; exact ⟨rfl, rfl⟩
  · rw [e3, ob_s, if_pos rfl, e4, ob_s, if_pos rfl]
    rcases let_cases hB c r with ⟨x, hx, hb2, f2, -, f4, -⟩ | ⟨hn2, f2, f4⟩
    · rw [f2, ob_s, if_neg n10, f4, ob_s, if_neg n10]; exact ⟨rfl, rfl⟩
    · rw [f2, ob_s, if_pos rfl, f4, ob_s, if_pos rfl]
      rcases h with ⟨x, hx, h⟩ | ⟨d, hd, h⟩ | rfl | rfl | rfl | rfl | rfl
      · exact absurd h (hn2 x hx)
      · exact absurd h (hn d hd)
      · exact ⟨rfl, rfl⟩
      · exact ⟨rfl, rfl⟩
      · exact ⟨rfl, rfl⟩
      · exact ⟨rfl, rfl⟩
      · exact ⟨rfl, rfl⟩
theorem bg_f {B : Option Nat} (hB : lo 256 B) (c r : jS) (h : ¬ Gd B) : xReader_beginsTerm c (bx B) = some 0 ∧ m_begins r (bm B) = some 0 ∧ (m_byteHere r = some (bm B) → m_readBegin r = some ((), su r 30 42 1)) := by
  unfold xReader_beginsTerm m_begins
  have X : ∀ k, k < 256 → ¬ B = some k → ¬ bx B = nI k := fun k hk hn e => hn ((bx_eq hB hk).mp e)
  have Y : ∀ k, k < 256 → ¬ B = some k → ¬ bm B = nI k := fun k hk hn e => hn ((bm_eq hB hk).mp e)
  have h45 : ¬ B = some 45 := fun e => h (Or.inr (Or.inr (Or.inl e)))
  have h92 : ¬ B = some 92 := fun e => h (Or.inr (Or.inr (Or.inr (Or.inl e))))
  have h40 : ¬ B = some 40 := fun e => h (Or.inr (Or.inr (Or.inr (Or.inr (Or.inl e)))))
  have h91 : ¬ B = some 91 := fun e => h (Or.inr (Or.inr (Or.inr (Or.inr (Or.inr (Or.inl e))))))
  have h123 : ¬ B = some 123 := fun e => h (Or.inr (Or.inr (Or.inr (Or.inr (Or.inr (Or.inr e))))))
  rcases dig_cases hB c r with ⟨d, hd, hb, -⟩ | ⟨hn, e3, e4⟩
  · exact absurd (Or.inr (Or.inl ⟨d, hd, hb⟩)) h
  · rcases let_cases hB c r with ⟨x, hx, hb2, -⟩ | ⟨hn2, f2, f4⟩
    · exact absurd (Or.inl ⟨x, hx, hb2⟩) h
    · rw [e3, ob_s, if_pos rfl, f4, ob_s, if_pos rfl, f2, ob_s, if_pos rfl, e4, ob_s, if_pos rfl]
      rw [if_neg (show ¬ bx B = 45 from X 45 (by omega) h45), if_neg (show ¬ bx B = 92 from X 92 (by omega) h92), if_neg (show ¬ bx B = 40 from X 40 (by omega) h40), if_neg (show ¬ bx B = 91 from X 91 (by omega) h91), if_neg (show ¬ bx B = 123 from X 123 (by omega) h123)]
      rw [if_neg (show ¬ bm B = 45 from Y 45 (by omega) h45), if_neg (show ¬ bm B = 92 from Y 92 (by omega) h92), if_neg (show ¬ bm B = 40 from Y 40 (by omega) h40), if_neg (show ¬ bm B = 91 from Y 91 (by omega) h91), if_neg (show ¬ bm B = 123 from Y 123 (by omega) h123)]
      refine ⟨rfl, rfl, fun hby => ?_⟩
      unfold m_readBegin m_readBegin_P114
      rw [hby, ob_s, f4, ob_s, if_pos rfl, if_neg (show ¬ bm B = 45 from Y 45 (by omega) h45), e4, ob_s, if_pos rfl, if_neg (show ¬ bm B = 92 from Y 92 (by omega) h92), if_neg (show ¬ bm B = 40 from Y 40 (by omega) h40), if_neg (show ¬ bm B = 91 from Y 91 (by omega) h91), if_neg (show ¬ bm B = 123 from Y 123 (by omega) h123), if_pos rfl, ltS]
/-- a name -/
theorem rd_name {M p P T n x : Nat} {c r : jS} (hT : Ty c r T) (hM : Tm c r T n) (hK : Tk M c r P) (h14 : r 30 14 = nI p) (hx : x < 26) (hb : bt c P M = some (97 + x)) :
    ∃ v c' r', xReader_nameHere c = some (v, c') ∧ m_readBegin r = some ((), r') ∧ RS M T n p c r v c' r' := by
  have hP := bt_s hb
  have hB := bt_lo (c := c) (P := P) (M := M)
  obtain ⟨v, c', r1, r', e1, e2, e3, h⟩ := rmk (k := 1) (lx := some x) (ty := none) (oa := none) (ob' := none) (od := none) (Ty_next hT) (Tm_next hM) (Tk_next hK hP) (show (su r 30 41 (nI (P + 1))) 30 14 = nI p by rw [su_row, upd_n (by omega)]; exact h14) (by omega) ⟨by decide, rfl, lo_s hx, lo_n, lo_n, lo_n, lo_n⟩
  rcases let_cases hB c r with ⟨x', hx', hb', f2, f3, f4, f5⟩ | ⟨hn, -⟩
  · obtain rfl : x' = x := by rw [hb] at hb'; simp at hb'; omega
    refine ⟨v, c', r', ?_, ?_, RS_seq (Nat.le_refl T) (Nat.le_refl n) (fRX_su fRX.rf) (fRM_30 fRM.rf (by omega)) h⟩
    · unfold xReader_nameHere xTerms_newName
      rw [x_byte hK, ob_s, hK.2.2.1, nI_1, ltS, f3, bd_etaI, bd_etaI]
      exact e1
    · unfold m_readBegin
      rw [m_byte hK, ob_s, f4, ob_s, if_neg n10, hK.2.2.2.1, nI_1, ltS, f5]
      show bd (m_make _ (nI 1) 0 (pv (some x')) (pv none) (pv none) (pv none) (pv none)) _ = _
      rw [e2, bd_s, e3, bd_s]
  · exact absurd hb (hn x hx)
theorem rd_num {M p P T n : Nat} {c r : jS} (hT : Ty c r T) (hM : Tm c r T n) (hK : Tk M c r P) (h14 : r 30 14 = nI p) (hb : bt c P M = some 45 ∨ ∃ d, d ≤ 9 ∧ bt c P M = some (48 + d)) :
    ∃ v c' r', xReader_numberHere c = some (v, c') ∧ m_readBegin r = some ((), r') ∧ RS M T n p c r v c' r' := by
  have hB := bt_lo (c := c) (P := P) (M := M)
  obtain ⟨v, c', r', e1, e2, h⟩ := rn_sim hT hM hK h14 hb
  refine ⟨v, c', r', e1, ?_, h⟩
  unfold m_readBegin
  rw [m_byte hK, ob_s]
  rcases let_cases hB c r with ⟨x, hx, hb', -⟩ | ⟨-, f2, f4⟩
  · rcases hb with hb | ⟨d, hd, hb⟩
    · rw [hb] at hb'; simp at hb'; omega
    · rw [hb] at hb'; simp at hb'; omega
  · rw [f4, ob_s, if_pos rfl, e2, bd_s]
    rcases hb with hb | ⟨d, hd, hb⟩
    · rw [hb, if_pos (show bm (some 45) = 45 from rfl)]
    · rcases dig_cases hB c r with ⟨-, -, -, -, e4⟩ | ⟨hn, -⟩
      · by_cases h45 : bm (bt c P M) = 45
        · rw [if_pos h45]
        · rw [if_neg h45, e4, ob_s, if_neg n10]
      · exact absurd hb (hn d hd)
set_option maxHeartbeats 1000000 in
theorem rd_sim {M : Nat} {a b : Int32} : ∀ d, RD M a b d
  | 0 => fun f l p c r T n P hl hp hf hT hM hK h14 h22 => by
    obtain ⟨f, rfl⟩ : ∃ f', f = f' + 1 := ⟨f - 1, by omega⟩
    obtain rfl : l = 41 := by omega
    obtain rfl : p = 40 := by omega
    have hB := bt_lo (c := c) (P := P) (M := M)
    rw [xReader_termHere_s]
    unfold b_xReader_termHere
    rw [x_byte hK, ob_s]
    have t : ∀ {k : Int32} {w : Int32}, m_begins r (bm (bt c P M)) = some k → w = (if k = 0 then 1 else 2) → m_read_L31 a b r = m_read_L31 a b (su r 30 42 w) := fun {k w} h1 h2 => by
      unfold m_read_L31
      refine lp_inl ?_
      show m_read_S31 a b r = _
      unfold m_read_S31 m_read_P54_31
      rw [if_pos hK.2.2.2.2.2, h14, if_pos (by decide), if_pos h22, if_pos (by decide), m_byte hK, ob_s, h1, ob_s, h2]
      by_cases h0 : k = 0
      · rw [if_pos h0, if_pos h0, ltS]
      · rw [if_neg h0, if_neg h0, ltS]
    by_cases hG : Gd (bt c P M)
    · obtain ⟨g1, g2⟩ := bg_t hB c r hG
      refine ⟨-3, c, su r 30 42 2, ?_, t g2 rfl, T, n, Nat.le_refl T, Nat.le_refl n, Ty_3 (by omega) hT, Tm_r (AgM_30 AgM.rf) rfl hM, fRX.rf, fRM_30 fRM.rf (by omega), Or.inr (Or.inl ⟨rfl, by rw [su_row, upd_s]⟩)⟩
      rw [g1, ob_s, if_neg n10, if_neg (by decide)]
    · obtain ⟨g1, g2, -⟩ := bg_f hB c r hG
      refine ⟨-10 - nI P, c, su r 30 42 1, ?_, t g2 rfl, RS_wr hT hM hK⟩
      unfold xReader_wrongHere
      rw [g1, ob_s, if_pos rfl, hK.2.2.1, ob_s]
  | d + 1 => fun f l p c r T n P hl hp hf hT hM hK h14 h22 => by
    obtain ⟨g, rfl⟩ : ∃ f', f = f' + 1 + 1 + 1 := ⟨f - 3, by omega⟩
    have ih := rd_sim (M := M) (a := a) (b := b) d
    have hB := bt_lo (c := c) (P := P) (M := M)
    have X : ∀ k, k < 256 → ¬ bt c P M = some k → ¬ bx (bt c P M) = nI k := fun k hk hn e => hn ((bx_eq hB hk).mp e)
    have l40 : nI l ≤ (40 : Int32) := nI_le (b := 40) (by omega) (by decide)
    rw [xReader_termHere_s]
    unfold b_xReader_termHere
    simp only [bd_etaI]
    rw [x_byte hK, ob_s]
    by_cases hG : Gd (bt c P M)
    · obtain ⟨g1, -⟩ := bg_t hB c r hG
      rw [g1, ob_s, if_neg n10, if_pos l40]
      rcases hG with ⟨x, hx, hb⟩ | ⟨y, hy, hb⟩ | hb | hb | hb | hb | hb
      · obtain ⟨v, c', r', e1, e2, h⟩ := rd_name hT hM hK h14 hx hb
        have nn : ∀ k, (k < 97 ∨ k = 123) → ¬ bt c P M = some k := fun k hk e => by rw [hb] at e; simp at e; omega
        rcases let_cases hB c r with ⟨-, -, -, f2, -⟩ | ⟨hn, -⟩
        · refine ⟨v, c', r', ?_, rb_step hK.2.2.2.2.2 h22 h14 (by omega) e2, h⟩
          rw [if_neg (show ¬ bx (bt c P M) = 40 from X 40 (by omega) (nn 40 (by omega))), if_neg (show ¬ bx (bt c P M) = 91 from X 91 (by omega) (nn 91 (by omega))), if_neg (show ¬ bx (bt c P M) = 92 from X 92 (by omega) (nn 92 (by omega))), if_neg (show ¬ bx (bt c P M) = 123 from X 123 (by omega) (nn 123 (by omega))), f2, ob_s, if_neg n10, e1]
        · exact absurd hb (hn x hx)
      · obtain ⟨v, c', r', e1, e2, h⟩ := rd_num hT hM hK h14 (Or.inr ⟨y, hy, hb⟩)
        have nn : ∀ k, (k < 48 ∨ 57 < k) → ¬ bt c P M = some k := fun k hk e => by rw [hb] at e; simp at e; omega
        rcases let_cases hB c r with ⟨x, hx, hb', -⟩ | ⟨-, f2, -⟩
        · exact absurd hb' (nn _ (by omega))
        · refine ⟨v, c', r', ?_, rb_step hK.2.2.2.2.2 h22 h14 (by omega) e2, h⟩
          rw [if_neg (show ¬ bx (bt c P M) = 40 from X 40 (by omega) (nn 40 (by omega))), if_neg (show ¬ bx (bt c P M) = 91 from X 91 (by omega) (nn 91 (by omega))), if_neg (show ¬ bx (bt c P M) = 92 from X 92 (by omega) (nn 92 (by omega))), if_neg (show ¬ bx (bt c P M) = 123 from X 123 (by omega) (nn 123 (by omega))), f2, ob_s, if_pos rfl, e1]
      · obtain ⟨v, c', r', e1, e2, h⟩ := rd_num hT hM hK h14 (Or.inl hb)
        have nn : ∀ k, k ≠ 45 → ¬ bt c P M = some k := fun k hk e => by rw [hb] at e; simp at e; omega
        rcases let_cases hB c r with ⟨x, hx, hb', -⟩ | ⟨-, f2, -⟩
        · exact absurd hb' (nn _ (by omega))
        · refine ⟨v, c', r', ?_, rb_step hK.2.2.2.2.2 h22 h14 (by omega) e2, h⟩
          rw [if_neg (show ¬ bx (bt c P M) = 40 from X 40 (by omega) (nn 40 (by omega))), if_neg (show ¬ bx (bt c P M) = 91 from X 91 (by omega) (nn 91 (by omega))), if_neg (show ¬ bx (bt c P M) = 92 from X 92 (by omega) (nn 92 (by omega))), if_neg (show ¬ bx (bt c P M) = 123 from X 123 (by omega) (nn 123 (by omega))), f2, ob_s, if_pos rfl, e1]
      · obtain ⟨v, c', r', e1, e2, h⟩ := rd_fun (g := g) ih (by omega) hp (by omega) hT hM hK h14 h22 hb
        refine ⟨v, c', r', ?_, e2, h⟩
        rw [hb, if_neg (show ¬ bx (some 92) = 40 by decide), if_neg (show ¬ bx (some 92) = 91 by decide), if_pos (show bx (some 92) = 92 from rfl), e1]
      · obtain ⟨v, c', r', e1, e2, h⟩ := rd_pair (g := g) ih (by omega) hp (by omega) hT hM hK h14 h22 hb
        refine ⟨v, c', r', ?_, e2, h⟩
        rw [hb, if_pos (show bx (some 40) = 40 from rfl), e1]
      · obtain ⟨v, c', r', e1, e2, h⟩ := rd_let (g := g) ih (by omega) hp (by omega) hT hM hK h14 h22 hb
        refine ⟨v, c', r', ?_, e2, h⟩
        rw [hb, if_neg (show ¬ bx (some 91) = 40 by decide), if_pos (show bx (some 91) = 91 from rfl), e1]
      · obtain ⟨v, c', r', e1, e2, h⟩ := rd_choice (g := g) ih (by omega) hp (by omega) hT hM hK h14 h22 hb
        refine ⟨v, c', r', ?_, e2, h⟩
        rw [hb, if_neg (show ¬ bx (some 123) = 40 by decide), if_neg (show ¬ bx (some 123) = 91 by decide), if_neg (show ¬ bx (some 123) = 92 by decide), if_pos (show bx (some 123) = 123 from rfl), e1]
    · obtain ⟨g1, -, g3⟩ := bg_f hB c r hG
      refine ⟨-10 - nI P, c, su r 30 42 1, ?_, rb_step hK.2.2.2.2.2 h22 h14 (by omega) (g3 (m_byte hK)), RS_wr hT hM hK⟩
      unfold xReader_wrongHere
      rw [g1, ob_s, if_pos rfl, hK.2.2.1, ob_s]
