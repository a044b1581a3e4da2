theorem b2_0 {g : Bool} : b2 g = 0 ↔ g = false := by cases g <;> decide
theorem rn_fin {M T n p P V : Nat} {g : Bool} {c r : jS} (hT : Ty c r T) (hM : Tm c r T n) (hK : Tk M c r P) (h14 : r 30 14 = nI p) :
    ∃ v c' r', xTerms_newNumber c (sv g V).toInt32 = some (v, c') ∧ m_readNumber_P169_95 (b2 g) (lN V) r = some (Sum.inr ((), r')) ∧ RS M T n p c r v c' r' := by
  obtain ⟨v, c', r1, r', e1, e2, e3, h⟩ := rmk0 hT hM hK h14 (sv g V).toInt32
  refine ⟨v, c', r', e1, ?_, h⟩
  unfold m_readNumber_P169_95
  rw [if_pos hK.2.2.2.2.2]
  cases g with
  | false =>
    rw [if_pos (show b2 false = 0 from rfl), show (lN V).toInt32 = (sv false V).toInt32 from rfl, e2, bd_s, e3, bd_s]
  | true =>
    rw [if_neg (show ¬ b2 true = 0 by decide), show (-lN V).toInt32 = (sv true V).toInt32 from rfl, e2, bd_s, e3, bd_s]
theorem dg_i {d : Nat} (hd : d ≤ 9) : (nI (48 + d)).toInt64 = lN (48 + d) := nI_l (by omega)
theorem rn_L {M T n p : Nat} {g : Bool} : ∀ (j Q V : Nat) (c r : jS), Q + j = M → 1 ≤ V → V ≤ mo g → Ty c r T → Tm c r T n → Tk M c r Q → r 30 14 = nI p →
    ∃ v c' r', xReader_numberHere_L77 (sg g) (sv g V) c = some (v, c') ∧ m_readNumber_L95 (b2 g) (lN (mo g)) (lN V) r = some ((), r') ∧ RS M T n p c r v c' r' := by
  intro j
  induction j with
  | zero =>
    intro Q V c r hQ hV hVm hT hM hK h14
    have hV31 := mo_le g
    obtain ⟨v, c', r', e1, e2, h⟩ := rn_fin (g := g) (V := V) hT hM hK h14
    have hbt : bt c Q M = none := by unfold bt; rw [if_neg (by omega)]
    refine ⟨v, c', r', ?_, ?_, h⟩
    · unfold xReader_numberHere_L77
      refine lp_inr ?_
      show xReader_numberHere_S77 (sg g) (sv g V) c = _
      unfold xReader_numberHere_S77
      rw [hK.1.1, hK.2.2.1, if_pos (nI_le (by omega) (by have := hK.2.1; omega)), e1, bd_s]
    · unfold m_readNumber_L95
      refine lp_inr ?_
      show m_readNumber_S95 (b2 g) (lN (mo g)) (lN V) r = _
      unfold m_readNumber_S95
      rw [if_neg (fun e => by rw [lg_cmp_le] at e; have := (pk_lLE (a := V) (b := 0) (by omega) (by decide)).mp e; omega), m_byte hK, ob_s, hbt, show m_in r (bm none) 48 57 = some 0 from m_in_lo (by decide), ob_s, if_pos rfl, e2]
  | succ j ih =>
    intro Q V c r hQ hV hVm hT hM hK h14
    have hV31 := mo_le g
    have hM6 := hK.2.1
    have hB := bt_lo (c := c) (P := Q) (M := M)
    have n0 : ∀ {W : Nat}, 1 ≤ W → W < 2 ^ 40 → ¬ lg_cmp (lN W) 0 ≤ 0 := fun {W} h1 h2 e => by rw [lg_cmp_le] at e; have := (pk_lLE (a := W) (b := 0) (by omega) (by decide)).mp e; omega
    have hge : ¬ nI M ≤ nI Q := nI_ge (by omega) (by omega)
    rcases dig_cases hB c r with ⟨d, hd, hb, e3, e4⟩ | ⟨-, e3, e4⟩
    · have st := sv_step g (V := V) hd
      have hW : V * 10 + d < 2 ^ 40 := by omega
      have cx : xReader_numberHere_S77 (sg g) (sv g V) c = (if V * 10 + d ≤ mo g then some (Sum.inl (sg g, sv g (V * 10 + d), su c 28 4 (nI (Q + 1)))) else some (Sum.inr (-10 - nI Q, c))) := by
        unfold xReader_numberHere_S77 xReader_wrongHere
        rw [hK.1.1, hK.2.2.1, if_neg hge, x_byte hK, ob_s, e3, ob_s, if_neg n10, ob_s, hb, show bx (some (48 + d)) = nI (48 + d) from rfl, st]
        by_cases hw : V * 10 + d ≤ mo g
        · rw [if_pos ((sv_fit g hW).mpr hw), if_pos hw, nI_1, ltS]
        · rw [if_neg (fun e => hw ((sv_fit g hW).mp e)), if_neg hw, ob_s]
      have mx : m_readNumber_S95 (b2 g) (lN (mo g)) (lN V) r = (if V * 10 + d ≤ mo g then some (Sum.inl (b2 g, lN (mo g), lN (V * 10 + d), su r 30 41 (nI (Q + 1)))) else some (Sum.inl (b2 g, lN (mo g), lN (V * 10 + d), su r 30 42 1))) := by
        unfold m_readNumber_S95
        rw [if_neg (n0 hV (by omega)), m_byte hK, ob_s, e4, ob_s, if_neg n10, if_pos hK.2.2.2.2.2, ob_s, hb, show bm (some (48 + d)) = nI (48 + d) from rfl, dg_i hd, show (10 : Int64) = lN 10 from rfl, lN_mul, lN_add, show (48 : Int64) = lN 48 from rfl, lN_sub (by omega), show 10 * V + (48 + d) - 48 = V * 10 + d by omega]
        by_cases hw : V * 10 + d ≤ mo g
        · rw [if_pos ((lg_cmp_le _ _).mpr ((pk_lLE (by omega) (by omega)).mpr hw)), if_pos hw, hK.2.2.2.1, nI_1, ltS]
        · rw [if_neg (fun e => by rw [lg_cmp_le] at e; exact hw ((pk_lLE (by omega) (by omega)).mp e)), if_neg hw, ltS]
      by_cases hw : V * 10 + d ≤ mo g
      · rw [if_pos hw] at cx mx
        obtain ⟨v, c', r', q1, q2, h⟩ := ih (Q + 1) (V * 10 + d) (su c 28 4 (nI (Q + 1))) (su r 30 41 (nI (Q + 1))) (by omega) (by omega) hw (Ty_x28 (Ty_3 (by omega) hT)) (Tm_of (Nat.le_refl n) (fun p h1 h2 t _ => by rw [su_ne (by omega)]) (AgM_30 AgM.rf) (fun i _ => by rw [su_ne (by omega)]) (by rw [su_ne (by omega)]; exact hM.1) (by rw [su_row, upd_n (by omega)]; exact hM.2.1) hM) (Tk_next hK (by omega)) (by rw [su_row, upd_n (by omega)]; exact h14)
        refine ⟨v, c', r', ?_, ?_, RS_seq (Nat.le_refl T) (Nat.le_refl n) (fRX_su fRX.rf) (fRM_30 fRM.rf (by omega)) h⟩
        · rw [← q1]; unfold xReader_numberHere_L77; exact lp_inl cx
        · rw [← q2]; unfold m_readNumber_L95; exact lp_inl mx
      · rw [if_neg hw] at cx mx
        refine ⟨-10 - nI Q, c, su r 30 42 1, ?_, ?_, RS_wr hT hM hK⟩
        · unfold xReader_numberHere_L77; exact lp_inr cx
        · have m2 : m_readNumber_L95 (b2 g) (lN (mo g)) (lN V) r = m_readNumber_L95 (b2 g) (lN (mo g)) (lN (V * 10 + d)) (su r 30 42 1) := by unfold m_readNumber_L95; exact lp_inl mx
          rw [m2]
          unfold m_readNumber_L95
          refine lp_inr ?_
          show m_readNumber_S95 (b2 g) (lN (mo g)) (lN (V * 10 + d)) (su r 30 42 1) = _
          unfold m_readNumber_S95 m_readNumber_P169_95
          have n42 : ¬ (su r 30 42 1) 30 42 = 0 := by rw [su_row, upd_s]; decide
          rw [if_neg (n0 (by omega) hW), (show m_byteHere (su r 30 42 1) = m_byteHere r from rfl).trans (m_byte hK), ob_s, show m_in (su r 30 42 1) (bm (bt c Q M)) 48 57 = some 1 from e4, ob_s, if_neg n10, if_neg n42, if_neg n42]
    · obtain ⟨v, c', r', e1, e2, h⟩ := rn_fin (g := g) (V := V) hT hM hK h14
      refine ⟨v, c', r', ?_, ?_, h⟩
      · unfold xReader_numberHere_L77
        refine lp_inr ?_
        show xReader_numberHere_S77 (sg g) (sv g V) c = _
        unfold xReader_numberHere_S77
        rw [hK.1.1, hK.2.2.1, if_neg hge, x_byte hK, ob_s, e3, ob_s, if_pos rfl, e1, bd_s]
      · unfold m_readNumber_L95
        refine lp_inr ?_
        show m_readNumber_S95 (b2 g) (lN (mo g)) (lN V) r = _
        unfold m_readNumber_S95
        rw [if_neg (n0 hV (by omega)), m_byte hK, ob_s, e4, ob_s, if_pos rfl, e2]
theorem Tm_next {T n P : Nat} {c r : jS} (hM : Tm c r T n) : Tm (su c 28 4 (nI P)) (su r 30 41 (nI P)) T n :=
  Tm_of (Nat.le_refl n) (fun p h1 h2 t _ => by rw [su_ne (by omega)]) (AgM_30 AgM.rf) (fun i _ => by rw [su_ne (by omega)]) (by rw [su_ne (by omega)]; exact hM.1) (by rw [su_row, upd_n (by omega)]; exact hM.2.1) hM
theorem Ty_next {T P : Nat} {c r : jS} (hT : Ty c r T) : Ty (su c 28 4 (nI P)) (su r 30 41 (nI P)) T := Ty_x28 (Ty_3 (by omega) hT)
/-- from the first digit, which is no 0 -/
theorem rn_go {M T n p Q d : Nat} {g : Bool} {c r : jS} (hT : Ty c r T) (hM : Tm c r T n) (hK : Tk M c r Q) (h14 : r 30 14 = nI p) (h1 : 1 ≤ d) (hd : d ≤ 9) (hb : bt c Q M = some (48 + d)) :
    ∃ v c' r', xReader_numberHere_P47 (sg g) c = some (v, c') ∧ m_readNumber_P77 (b2 g) (nI (48 + d)) (lN (mo g)) r = some ((), r') ∧ RS M T n p c r v c' r' := by
  have hQ := bt_s hb
  have hM6 := hK.2.1
  have hB := bt_lo (c := c) (P := Q) (M := M)
  have m9 := mo_9 g
  obtain ⟨v, c', r', q1, q2, h⟩ := rn_L (g := g) (M - (Q + 1)) (Q + 1) d (su c 28 4 (nI (Q + 1))) (su r 30 41 (nI (Q + 1))) (by omega) h1 (by omega) (Ty_next hT) (Tm_next hM) (Tk_next hK hQ) (show (su r 30 41 (nI (Q + 1))) 30 14 = nI p by rw [su_row, upd_n (by omega)]; exact h14)
  refine ⟨v, c', r', ?_, ?_, RS_seq (Nat.le_refl T) (Nat.le_refl n) (fRX_su fRX.rf) (fRM_30 fRM.rf (by omega)) h⟩
  · unfold xReader_numberHere_P47
    rw [x_byte hK, ob_s, if_neg (show ¬ bx (bt c Q M) = 48 from fun e => by have := (bx_eq (k := 48) hB (by omega)).mp e; rw [hb] at this; simp at this; omega), ← q1]
    unfold xReader_numberHere_L77
    refine lp_inl ?_
    show xReader_numberHere_S77 (sg g) 0 c = _
    have e3 : xReader_isDigit c (bx (bt c Q M)) = some 1 := by
      rcases dig_cases hB c r with ⟨-, -, -, e, -⟩ | ⟨hn, -⟩
      · exact e
      · exact absurd hb (hn d hd)
    have st := sv_step g (V := 0) hd
    rw [show sv g 0 = 0 by cases g <;> rfl, show 0 * 10 + d = d by omega] at st
    unfold xReader_numberHere_S77
    rw [hK.1.1, hK.2.2.1, if_neg (nI_ge (by omega) (by omega)), x_byte hK, ob_s, e3, ob_s, if_neg n10, ob_s, hb, show bx (some (48 + d)) = nI (48 + d) from rfl, st, if_pos ((sv_fit g (by omega)).mpr (by omega)), nI_1, ltS]
  · unfold m_readNumber_P77
    have e : nI (48 + d) - 48 = nI d := by
      have := nI_subI (a := 48 + d) (b := 48) (by omega)
      rw [show 48 + d - 48 = d by omega] at this
      exact this
    rw [ltS, hK.2.2.2.1, nI_1, e, nI_l (by omega), q2]
theorem rn_sim {M T n p P : Nat} {c r : jS} (hT : Ty c r T) (hM : Tm c r T n) (hK : Tk M c r P) (h14 : r 30 14 = nI p) (hb : bt c P M = some 45 ∨ ∃ d, d ≤ 9 ∧ bt c P M = some (48 + d)) :
    ∃ v c' r', xReader_numberHere c = some (v, c') ∧ m_readNumber r = some ((), r') ∧ RS M T n p c r v c' r' := by
  have hM6 := hK.2.1
  have hB := bt_lo (c := c) (P := P) (M := M)
  unfold xReader_numberHere m_readNumber
  rw [x_byte hK, ob_s, m_byte hK, ob_s]
  rcases hb with hb | ⟨d, hd, hb⟩
  · have hP := bt_s hb
    have K1 := Tk_next hK hP
    have hB1 := bt_lo (c := su c 28 4 (nI (P + 1))) (P := P + 1) (M := M)
    have h14' : (su r 30 41 (nI (P + 1))) 30 14 = nI p := by rw [su_row, upd_n (by omega)]; exact h14
    rw [hb, if_pos (show bx (some 45) = 45 from rfl), if_pos (show bm (some 45) = 45 from rfl), hK.2.2.1, nI_1, ltS]
    unfold m_readNumber_P14 m_readNumber_P29
    rw [if_neg n10, hK.2.2.2.1, show nI P + 1 = nI (P + 1) from nI_1 P, ltS, m_byte K1, ob_s, if_neg n10, x_byte K1, ob_s]
    unfold m_readNumber_P50
    have bad : ∀ {x : Int32}, m_in (su r 30 41 (nI (P + 1))) x 49 57 = some 0 → x = bm (bt (su c 28 4 (nI (P + 1))) (P + 1) M) → ∃ r', ob (m_in (su r 30 41 (nI (P + 1))) x 49 57) (fun r4 => if r4 = 0 then lt (su (su r 30 41 (nI (P + 1))) 30 42 (1 : Int32)) (fun c17 => some ((), c17)) else if (1 : Int32) = 0 then m_readNumber_P77 1 x (2147483647 : Int64) (su r 30 41 (nI (P + 1))) else m_readNumber_P77 1 x (2147483648 : Int64) (su r 30 41 (nI (P + 1)))) = some ((), r') ∧ RS M T n p c r (-10 - nI (P + 1)) (su c 28 4 (nI (P + 1))) r' := fun {x} h _ => by
      refine ⟨su (su r 30 41 (nI (P + 1))) 30 42 1, by rw [h, ob_s, if_pos rfl, ltS], RS_seq (Nat.le_refl T) (Nat.le_refl n) (fRX_su fRX.rf) (fRM_30 fRM.rf (by omega)) (RS_wr (Ty_next hT) (Tm_next hM) K1)⟩
    rcases dig_cases hB1 (su c 28 4 (nI (P + 1))) r with ⟨d, hd, hb1, e3, e4⟩ | ⟨hn, e3, e4⟩
    · rw [e3, ob_s, if_neg n10, ob_s]
      by_cases h0 : d = 0
      · subst h0
        obtain ⟨r', q1, q2⟩ := bad (x := bm (bt (su c 28 4 (nI (P + 1))) (P + 1) M)) (by rw [hb1]; exact m_in_lo (by decide)) rfl
        refine ⟨_, _, r', ?_, q1, q2⟩
        unfold xReader_wrongHere
        rw [hb1, if_pos (show bx (some (48 + 0)) = 48 from rfl), ob_s, K1.2.2.1]
      · obtain ⟨v, c', r', q1, q2, h⟩ := rn_go (g := true) (Ty_next hT) (Tm_next hM) K1 h14' (by omega) hd hb1
        refine ⟨v, c', r', ?_, ?_, RS_seq (Nat.le_refl T) (Nat.le_refl n) (fRX_su fRX.rf) (fRM_30 fRM.rf (by omega)) h⟩
        · rw [if_neg (show ¬ bx (bt (su c 28 4 (nI (P + 1))) (P + 1) M) = 48 from fun e => by have := (bx_eq (k := 48) hB1 (by omega)).mp e; rw [hb1] at this; simp at this; omega)]
          exact q1
        · rw [hb1, show m_in (su r 30 41 (nI (P + 1))) (bm (some (48 + d))) 49 57 = some 1 from m_in_t (a := 49) (b := 57) (by omega) (by omega) (by decide), ob_s, if_neg n10, if_neg n10]
          exact q2
    · obtain ⟨r', q1, q2⟩ := bad (x := bm (bt (su c 28 4 (nI (P + 1))) (P + 1) M)) (by
        cases hx : bt (su c 28 4 (nI (P + 1))) (P + 1) M with
        | none => exact m_in_lo (by decide)
        | some b =>
          rw [hx] at hB1 hn
          have hb256 := hB1 b rfl
          by_cases h1 : b < 49
          · exact m_in_lo (show nI b < nI 49 from nI_lt h1 (by decide))
          · have : ¬ b ≤ 57 := fun h2 => hn (b - 48) (by omega) (by rw [show 48 + (b - 48) = b by omega])
            exact m_in_hi (show ¬ nI b < nI 49 from nI_nlt (by omega) (by omega)) (show nI 57 < nI b from nI_lt (by omega) (by omega))) rfl
      refine ⟨_, _, r', ?_, q1, q2⟩
      unfold xReader_wrongHere
      rw [e3, ob_s, if_pos rfl, ob_s, K1.2.2.1]
  · have hP := bt_s hb
    have n45 : ¬ bt c P M = some 45 := fun e => by rw [hb] at e; simp at e; omega
    rw [if_neg (show ¬ bx (bt c P M) = 45 from fun e => n45 ((bx_eq (k := 45) hB (by omega)).mp e)), if_neg (show ¬ bm (bt c P M) = 45 from fun e => n45 ((bm_eq (k := 45) hB (by omega)).mp e))]
    unfold m_readNumber_P14 m_readNumber_P29
    have same : su r 30 41 (nI P) = r := by
      have h41 := hK.2.2.2.1
      funext q k
      by_cases hq : q = 30
      · subst hq
        rw [su_row]
        by_cases hk : k = 41
        · subst hk; rw [upd_s, h41]
        · rw [upd_n hk]
      · rw [su_ne hq]
    rw [if_pos rfl, hK.2.2.2.1, show nI P + 0 = nI P from nI_add P 0, same, ltS, m_byte hK, ob_s, if_pos rfl, hb]
    unfold m_readNumber_P50
    rw [show m_in r (bm (some (48 + d))) 48 57 = some 1 from m_in_t (a := 48) (b := 57) (by omega) (by omega) (by decide), ob_s, if_neg n10, if_pos rfl]
    by_cases h0 : d = 0
    · subst h0
      have K1 := Tk_next hK hP
      have h14' : (su r 30 41 (nI (P + 1))) 30 14 = nI p := by rw [su_row, upd_n (by omega)]; exact h14
      obtain ⟨v, c', r', e1, e2, h⟩ := rn_fin (g := false) (V := 0) (Ty_next hT) (Tm_next hM) K1 h14'
      refine ⟨v, c', r', ?_, ?_, RS_seq (Nat.le_refl T) (Nat.le_refl n) (fRX_su fRX.rf) (fRM_30 fRM.rf (by omega)) h⟩
      · unfold xReader_numberHere_P47
        rw [x_byte hK, ob_s, hb, if_pos (show bx (some (48 + 0)) = 48 from rfl), hK.2.2.1, nI_1, ltS, show (0 : Int32) = (sv false 0).toInt32 from rfl, e1, bd_s]
      · unfold m_readNumber_P77 m_readNumber_L95
        rw [ltS, hK.2.2.2.1, nI_1]
        refine lp_inr ?_
        show m_readNumber_S95 0 2147483647 (bm (some (48 + 0)) - 48).toInt64 (su r 30 41 (nI (P + 1))) = _
        unfold m_readNumber_S95
        rw [show (bm (some (48 + 0)) - 48).toInt64 = lN 0 from rfl, if_pos (by decide)]
        exact e2
    · obtain ⟨v, c', r', q1, q2, h⟩ := rn_go (g := false) hT hM hK h14 (by omega) hd hb
      exact ⟨v, c', r', q1, q2, h⟩
