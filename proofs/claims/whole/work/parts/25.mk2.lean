theorem pO {k : Nat} (hk : k < 7) (c : jS) : m_partsOf c (nI k) = some (nI (if k < 2 then 0 else if k = 2 then 1 else if k = 6 then 3 else 2)) := by
  unfold m_partsOf
  rcases (show k = 0 ∨ k = 1 ∨ k = 2 ∨ k = 3 ∨ k = 4 ∨ k = 5 ∨ k = 6 by omega) with rfl | rfl | rfl | rfl | rfl | rfl | rfl <;> decide
theorem frM_k {k : Nat} (hk : k < 7) (b x y w : Int32) : frM (nI k) b x y w = if k = 1 then b else if k = 2 then x &&& (b ^^^ -1) else if k = 4 then x ||| (y &&& (b ^^^ -1)) else x ||| y ||| w := by
  unfold frM
  have e1 : (nI k = 1) = (k = 1) := propext (nI_eq (b := 1) (by omega) (by decide))
  have e2 : (nI k = 2) = (k = 2) := propext (nI_eq (b := 2) (by omega) (by decide))
  have e4 : (nI k = 4) = (k = 4) := propext (nI_eq (b := 4) (by omega) (by decide))
  simp only [e1, e2, e4]
theorem frM_tb {k z a b d : Nat} {lx : Option Nat} {A B D : Int32} (hk : k < 7) (hz : z < 32) (hx : lo 26 lx) (hA : tb A z = decide (0 < a)) (hB : tb B z = decide (0 < b)) (hD : tb D z = decide (0 < d)) : tb (frM (nI k) (bitv lx) A B D) z = decide (0 < frq k lx z a b d) := by
  rw [frM_k hk]
  unfold frq
  have hb := tb_bitv hx hz
  by_cases h1 : k = 1
  · rw [if_pos h1, if_pos h1, hb]
    by_cases h : lx = some z <;> simp [h]
  · rw [if_neg h1, if_neg h1]
    by_cases h2 : k = 2
    · rw [if_pos h2, if_pos h2, tb_and, tb_not _ hz, hb, hA]
      by_cases h : lx = some z <;> simp [h]
    · rw [if_neg h2, if_neg h2]
      by_cases h4 : k = 4
      · rw [if_pos h4, if_pos h4, tb_or, tb_and, tb_not _ hz, hb, hA, hB]
        by_cases h : lx = some z
        · simp [h]
        · simp only [h, decide_false, Bool.not_false, Bool.and_true, if_false]
          rw [← Bool.decide_or]
          exact decide_eq_decide.mpr (by omega)
      · rw [if_neg h4, if_neg h4, tb_or, tb_or, hA, hB, hD, ← Bool.decide_or, ← Bool.decide_or]
        exact decide_eq_decide.mpr (by omega)
theorem ov_tb {c r : jS} {T n z : Nat} {o : Option Nat} (hM : Tm c r T n) (ho : lo n o) (hz : z < 26) : tb (ov (c 15) o) z = decide (0 < oz (fun p => frN r p z) o) := by
  cases o with
  | none => show tb 0 z = _; rw [tb_0]; rfl
  | some p => exact ((hM.2.2.2 p (ho p rfl)).1.2.2.1 z hz).2.2
theorem ov_tb2 {c r : jS} {T n z : Nat} {o : Option Nat} (hM : Tm c r T n) (ho : lo n o) (hz : 26 ≤ z) : tb (ov (c 15) o) z = false := by
  cases o with
  | none => exact tb_0 z
  | some p => exact (hM.2.2.2 p (ho p rfl)).1.2.2.2 z hz
theorem frM_hi {k z : Nat} {lx : Option Nat} {A B D : Int32} (hk : k < 7) (hz : 26 ≤ z) (hx : lo 26 lx) (hA : tb A z = false) (hB : tb B z = false) (hD : tb D z = false) : tb (frM (nI k) (bitv lx) A B D) z = false := by
  by_cases h32 : z < 32
  · have := frM_tb (a := 0) (b := 0) (d := 0) hk h32 hx (by rw [hA]; rfl) (by rw [hB]; rfl) (by rw [hD]; rfl)
    rw [this]
    unfold frq
    have hne : lx ≠ some z := fun e => by have := hx z e; omega
    simp [hne]
  · exact tb_hi _ (by omega)
theorem fr_le {c r : jS} {T n z : Nat} {o : Option Nat} (hM : Tm c r T n) (ho : lo n o) (hz : z < 26) : oz (fun p => frN r p z) o ≤ oz (szN c) o := by
  cases o with
  | none => exact Nat.zero_le _
  | some p =>
    have h := ((hM.2.2.2 p (ho p rfl)).1.2.2.1 z hz).2.1
    show frN r p z ≤ szN c p
    exact h
theorem frq_le (k : Nat) (lx : Option Nat) (z a b d : Nat) : frq k lx z a b d ≤ 1 + a + b + d := by
  unfold frq
  by_cases h1 : k = 1
  · rw [if_pos h1]; by_cases h : lx = some z <;> simp [h] <;> omega
  · rw [if_neg h1]
    by_cases h2 : k = 2
    · rw [if_pos h2]; by_cases h : lx = some z <;> simp [h] <;> omega
    · rw [if_neg h2]
      by_cases h4 : k = 4
      · rw [if_pos h4]; by_cases h : lx = some z <;> simp [h] <;> omega
      · rw [if_neg h4]; omega
/-- what the reference's loops come to, by the parts -/
theorem parts_ok {c r : jS} {n k T : Nat} {lx ty oa ob od : Option Nat} {v2 : Int32} (hs : shp T n k lx ty oa ob od) (F : Nat → Nat → Nat) (G H : Nat → Nat) :
    (psl oa ob od).length = (if k < 2 then 0 else if k = 2 then 1 else if k = 6 then 3 else 2) ∧ Pt (mk0 r n (nI k) v2 (pv lx) (pv ty) (pv oa) (pv ob) (pv od)) n 0 (psl oa ob od) ∧ (∀ p ∈ psl oa ob od, p < n) ∧
    sumL G (psl oa ob od) = oz G oa + oz G ob + oz G od ∧ maxL H 0 (psl oa ob od) = max (oz H oa) (max (oz H ob) (oz H od)) ∧
    ∀ z, z < 26 → (if nI k = 1 ∧ nI z = pv lx then 1 else 0) + fsum (nI k) (pv lx) (fun p => F p z) z 0 (psl oa ob od) = frq k lx z (oz (fun p => F p z) oa) (oz (fun p => F p z) ob) (oz (fun p => F p z) od) := by
  have q0 : (mk0 r n (nI k) v2 (pv lx) (pv ty) (pv oa) (pv ob) (pv od)) 39 (3 * n + 0) = pv oa := by
    show upd (upd (upd (r 39) (3 * n) (pv oa)) (3 * n + 1) (pv ob)) (3 * n + 2) (pv od) (3 * n + 0) = _
    rw [upd_n (by omega), upd_n (by omega), Nat.add_zero, upd_s]
  have q1 : (mk0 r n (nI k) v2 (pv lx) (pv ty) (pv oa) (pv ob) (pv od)) 39 (3 * n + 1) = pv ob := by
    show upd (upd (upd (r 39) (3 * n) (pv oa)) (3 * n + 1) (pv ob)) (3 * n + 2) (pv od) (3 * n + 1) = _
    rw [upd_n (by omega), upd_s]
  have q2 : (mk0 r n (nI k) v2 (pv lx) (pv ty) (pv oa) (pv ob) (pv od)) 39 (3 * n + 2) = pv od := by
    show upd (upd (upd (r 39) (3 * n) (pv oa)) (3 * n + 1) (pv ob)) (3 * n + 2) (pv od) (3 * n + 2) = _
    rw [upd_s]
  have hx : lo 26 lx := hs.2.2.1
  have hk7 := hs.1
  have ek : (nI k = 1) = (k = 1) := propext (nI_eq (b := 1) (by omega) (by decide))
  have b0 : ∀ z, z < 26 → bdv (nI k) (pv lx) (nI 0) z = (decide (lx = some z) && (decide (k = 2) || (decide (k = 4) && decide (0 = 1)))) := fun z hz => bdv_nI hk7 (by omega) hz hx
  have b1 : ∀ z, z < 26 → bdv (nI k) (pv lx) (nI 1) z = (decide (lx = some z) && (decide (k = 2) || (decide (k = 4) && decide (1 = 1)))) := fun z hz => bdv_nI hk7 (by omega) hz hx
  have b2 : ∀ z, z < 26 → bdv (nI k) (pv lx) (nI 2) z = (decide (lx = some z) && (decide (k = 2) || (decide (k = 4) && decide (2 = 1)))) := fun z hz => bdv_nI hk7 (by omega) hz hx
  have ez : ∀ z, z < 26 → (nI z = pv lx) = (lx = some z) := fun z hz => propext (nI_pv hz hx)
  have e0 : ∀ z, z < 26 → (if nI k = 1 ∧ nI z = pv lx then (1 : Nat) else 0) = if k = 1 ∧ lx = some z then 1 else 0 := fun z hz => by simp only [ek, ez z hz]
  rcases shp_cases hs with ⟨rfl, rfl, rfl, rfl, rfl, rfl⟩ | ⟨rfl, x, hx2, rfl, rfl, rfl, rfl, rfl⟩ | ⟨rfl, x, y, a, hx2, hy2, ha, rfl, rfl, rfl, rfl, rfl⟩ | ⟨rfl, a, b, ha, hb, rfl, rfl, rfl, rfl, rfl⟩ | ⟨rfl, x, a, b, hx2, ha, hb, rfl, rfl, rfl, rfl, rfl⟩ | ⟨rfl, a, b, ha, hb, rfl, rfl, rfl, rfl, rfl⟩ | ⟨rfl, a, b, d, ha, hb, hd, rfl, rfl, rfl, rfl, rfl⟩
  · refine ⟨rfl, trivial, fun p hp => absurd hp List.not_mem_nil, rfl, rfl, fun z hz => ?_⟩
    rw [e0 z hz]
    simp [psl, fsum, frq, oz]
  · refine ⟨rfl, trivial, fun p hp => absurd hp List.not_mem_nil, rfl, rfl, fun z hz => ?_⟩
    rw [e0 z hz]
    simp [psl, fsum, frq]
  · refine ⟨rfl, ⟨q0, ha, trivial⟩, by simp [psl, ha], by simp [psl, sumL, oz], by simp [psl, maxL, oz], fun z hz => ?_⟩
    rw [e0 z hz]
    show (if _ then 1 else 0) + ((if bdv _ _ (nI 0) z = true then 0 else F a z) + 0) = _
    rw [b0 z hz]
    by_cases h : some x = some z <;> simp [h, frq, oz]
  · refine ⟨rfl, ⟨q0, ha, q1, hb, trivial⟩, by simp [psl, ha, hb], by simp [psl, sumL, oz], by simp [psl, maxL, oz], fun z hz => ?_⟩
    rw [e0 z hz]
    show (if _ then 1 else 0) + ((if bdv _ _ (nI 0) z = true then 0 else F a z) + ((if bdv _ _ (nI 1) z = true then 0 else F b z) + 0)) = _
    rw [b0 z hz, b1 z hz]
    simp [frq, oz]
  · refine ⟨rfl, ⟨q0, ha, q1, hb, trivial⟩, by simp [psl, ha, hb], by simp [psl, sumL, oz], by simp [psl, maxL, oz], fun z hz => ?_⟩
    rw [e0 z hz]
    show (if _ then 1 else 0) + ((if bdv _ _ (nI 0) z = true then 0 else F a z) + ((if bdv _ _ (nI 1) z = true then 0 else F b z) + 0)) = _
    rw [b0 z hz, b1 z hz]
    by_cases h : some x = some z <;> simp [h, frq, oz]
  · refine ⟨rfl, ⟨q0, ha, q1, hb, trivial⟩, by simp [psl, ha, hb], by simp [psl, sumL, oz], by simp [psl, maxL, oz], fun z hz => ?_⟩
    rw [e0 z hz]
    show (if _ then 1 else 0) + ((if bdv _ _ (nI 0) z = true then 0 else F a z) + ((if bdv _ _ (nI 1) z = true then 0 else F b z) + 0)) = _
    rw [b0 z hz, b1 z hz]
    simp [frq, oz]
  · refine ⟨rfl, ⟨q0, ha, q1, hb, q2, hd, trivial⟩, by simp [psl, ha, hb, hd], by simp [psl, sumL, oz] <;> omega, by simp [psl, maxL, oz] <;> omega, fun z hz => ?_⟩
    rw [e0 z hz]
    show (if _ then 1 else 0) + ((if bdv _ _ (nI 0) z = true then 0 else F a z) + ((if bdv _ _ (nI 1) z = true then 0 else F b z) + ((if bdv _ _ (nI 2) z = true then 0 else F d z) + 0))) = _
    rw [b0 z hz, b1 z hz, b2 z hz]
    simp [frq, oz]
    omega
