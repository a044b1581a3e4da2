def fX (c c' : jS) : Prop := ∀ p, p < 5 ∨ 16 < p → c' p = c p
def fM (r r' : jS) : Prop := (∀ p, p ≠ 30 → p < 35 ∨ 42 < p → r' p = r p) ∧ ∀ k, k ≠ 5 → r' 30 k = r 30 k
theorem fX.rf {c : jS} : fX c c := fun _ _ => rfl
theorem fM.rf {c : jS} : fM c c := ⟨fun _ _ _ => rfl, fun _ _ => rfl⟩
theorem fX.tr {a b c : jS} (h : fX a b) (h' : fX b c) : fX a c := fun p hp => (h' p hp).trans (h p hp)
theorem fM.tr {a b c : jS} (h : fM a b) (h' : fM b c) : fM a c := ⟨fun p h1 h2 => (h'.1 p h1 h2).trans (h.1 p h1 h2), fun k hk => (h'.2 k hk).trans (h.2 k hk)⟩
theorem AgX.rf {n : Nat} {c : jS} : AgX n c c := fun _ _ _ _ _ => rfl
theorem AgM.rf {n : Nat} {c : jS} : AgM n c c := ⟨fun _ _ _ _ _ _ => rfl, fun _ _ => rfl, fun _ _ => rfl⟩
theorem AgX.tr {n m : Nat} {a b c : jS} (hn : n ≤ m) (h : AgX n a b) (h' : AgX m b c) : AgX n a c := fun p h1 h2 t ht => (h' p h1 h2 t (by omega)).trans (h p h1 h2 t ht)
theorem AgM.tr {n m : Nat} {a b c : jS} (hn : n ≤ m) (h : AgM n a b) (h' : AgM m b c) : AgM n a c := ⟨fun p h1 h2 h3 t ht => (h'.1 p h1 h2 h3 t (by omega)).trans (h.1 p h1 h2 h3 t ht), fun j hj => (h'.2.1 j (by omega)).trans (h.2.1 j hj), fun j hj => (h'.2.2 j (by omega)).trans (h.2.2 j hj)⟩
theorem AgM_E {r : jS} {n : Nat} {v1 v2 v3 v4 a b d s dd : Int32} {g : Nat → Int32} (hg : ∀ j, j < 26 * n → g j = r 42 j) : AgM n r (su (su (rw42 (mk0 r n v1 v2 v3 v4 a b d) g) 40 n s) 41 n dd) := by
  refine ⟨?_, ?_, hg⟩
  · intro p h1 h2 h3 t ht
    have hne : t ≠ n := by omega
    rcases (show p = 35 ∨ p = 36 ∨ p = 37 ∨ p = 38 ∨ p = 40 ∨ p = 41 by omega) with rfl | rfl | rfl | rfl | rfl | rfl
    · show upd (r 35) n v1 t = r 35 t; exact upd_n hne
    · show upd (r 36) n v2 t = r 36 t; exact upd_n hne
    · show upd (r 37) n v3 t = r 37 t; exact upd_n hne
    · show upd (r 38) n v4 t = r 38 t; exact upd_n hne
    · show upd (r 40) n s t = r 40 t; exact upd_n hne
    · show upd (r 41) n dd t = r 41 t; exact upd_n hne
  · intro j hj
    show upd (upd (upd (r 39) (3 * n) a) (3 * n + 1) b) (3 * n + 2) d j = r 39 j
    rw [upd_n (by omega), upd_n (by omega), upd_n (by omega)]
theorem fM_E {r : jS} {n : Nat} {v1 v2 v3 v4 a b d s dd : Int32} {g : Nat → Int32} : fM r (su (su (rw42 (mk0 r n v1 v2 v3 v4 a b d) g) 40 n s) 41 n dd) := by
  refine ⟨?_, fun _ _ => rfl⟩
  intro p h1 h2
  rw [su_ne (by omega), su_ne (by omega), rw42_ne (by omega)]
  unfold mk0
  rw [su_ne (by omega), su_ne (by omega), su_ne (by omega), su_ne (by omega), su_ne (by omega), su_ne (by omega), su_ne (by omega)]
theorem fM_5 {r r' : jS} {v : Int32} (h : fM r r') : fM r (su r' 30 5 v) := by
  refine ⟨fun p h1 h2 => ?_, fun k hk => ?_⟩
  · rw [su_ne h1]; exact h.1 p h1 h2
  · rw [su_row, upd_n hk]; exact h.2 k hk
theorem AgX_E {c : jS} {n : Nat} {k : Int32} {lx ty oa ob od : Option Nat} : AgX n c (xmE c n k lx ty oa ob od) := by
  intro p h1 h2 t ht
  have hne : t ≠ n := by omega
  rcases (show p = 6 ∨ p = 7 ∨ p = 8 ∨ p = 9 ∨ p = 10 ∨ p = 11 ∨ p = 12 ∨ p = 13 ∨ p = 14 ∨ p = 15 ∨ p = 16 by omega) with rfl | rfl | rfl | rfl | rfl | rfl | rfl | rfl | rfl | rfl | rfl
  · show upd (c 6) n _ t = _; exact upd_n hne
  · show upd (c 7) n _ t = _; exact upd_n hne
  · show upd (c 8) n _ t = _; exact upd_n hne
  · show upd (c 9) n _ t = _; exact upd_n hne
  · show upd (c 10) n _ t = _; exact upd_n hne
  · show upd (c 11) n _ t = _; exact upd_n hne
  · show upd (c 12) n _ t = _; exact upd_n hne
  · show upd (c 13) n _ t = _; exact upd_n hne
  · show upd (c 14) n _ t = _; exact upd_n hne
  · show upd (c 15) n _ t = _; exact upd_n hne
  · show upd (c 16) n _ t = _; exact upd_n hne
theorem fX_E {c : jS} {n : Nat} {k : Int32} {lx ty oa ob od : Option Nat} : fX c (xmE c n k lx ty oa ob od) := by
  intro p hp
  unfold xmE
  rw [su_ne (by omega), su_ne (by omega), su_ne (by omega), su_ne (by omega), su_ne (by omega), su_ne (by omega), su_ne (by omega), su_ne (by omega), su_ne (by omega), su_ne (by omega), su_ne (by omega), su_ne (by omega)]
/-! parts in numbers -/
theorem ov_sz {c r : jS} {T n : Nat} {o : Option Nat} (hM : Tm c r T n) (ho : lo n o) : ov (c 13) o = nI (oz (szN c) o) ∧ oz (szN c) o ≤ 1000 := by
  cases o with
  | none => exact ⟨rfl, Nat.zero_le _⟩
  | some p => exact ⟨(hM.2.2.2 p (ho p rfl)).1.2.1.1, (hM.2.2.2 p (ho p rfl)).1.2.1.2.1⟩
theorem ov_dp {c r : jS} {T n : Nat} {o : Option Nat} (hM : Tm c r T n) (ho : lo n o) : ov (c 14) o = nI (oz (dpN c) o) ∧ oz (dpN c) o ≤ 40 := by
  cases o with
  | none => exact ⟨rfl, Nat.zero_le _⟩
  | some p => exact ⟨(hM.2.2.2 p (ho p rfl)).1.2.1.2.2.1, (hM.2.2.2 p (ho p rfl)).1.2.1.2.2.2.1⟩
theorem ov_wd {c r : jS} {T n : Nat} {o : Option Nat} (hM : Tm c r T n) (ho : lo n o) : ov (c 16) o = nI (oz (wdN c) o) ∧ oz (wdN c) o ≤ 60 * oz (szN c) o := by
  cases o with
  | none => exact ⟨rfl, Nat.zero_le _⟩
  | some p => exact ⟨(hM.2.2.2 p (ho p rfl)).1.2.1.2.2.2.2.1, (hM.2.2.2 p (ho p rfl)).1.2.1.2.2.2.2.2⟩
theorem ov_ln {c r : jS} {T : Nat} {o : Option Nat} (hT : Ty c r T) (ho : lo T o) : ov (c 4) o = nI (oz (lnN c) o) ∧ oz (lnN c) o ≤ 40 := by
  cases o with
  | none => exact ⟨rfl, Nat.zero_le _⟩
  | some p => exact ⟨(hT.2.2.2.2.1 p (ho p rfl)).2.2.2.1, (hT.2.2.2.2.1 p (ho p rfl)).2.2.2.2⟩
theorem xmx_nI {a b : Nat} (ha : a < 2 ^ 31) (hb : b < 2 ^ 31) : xmx (nI a) (nI b) = nI (max a b) := by
  unfold xmx
  by_cases h : a < b
  · rw [if_pos (nI_lt h hb), Nat.max_eq_right (by omega)]
  · rw [if_neg (nI_nlt (by omega) ha), Nat.max_eq_left (by omega)]
theorem xmS_nI {c r : jS} {T n : Nat} {oa ob od : Option Nat} (hM : Tm c r T n) (ha : lo n oa) (hb : lo n ob) (hd : lo n od) : xmS c oa ob od = nI (1 + oz (szN c) oa + oz (szN c) ob + oz (szN c) od) := by
  unfold xmS
  rw [(ov_sz hM ha).1, (ov_sz hM hb).1, (ov_sz hM hd).1, show (1 : Int32) = nI 1 from rfl, nI_add, nI_add, nI_add]
theorem xmD_nI {c r : jS} {T n : Nat} {oa ob od : Option Nat} (hM : Tm c r T n) (ha : lo n oa) (hb : lo n ob) (hd : lo n od) : xmD c oa ob od = nI (1 + max (oz (dpN c) oa) (max (oz (dpN c) ob) (oz (dpN c) od))) := by
  have h1 := ov_dp hM ha
  have h2 := ov_dp hM hb
  have h3 := ov_dp hM hd
  unfold xmD
  rw [h1.1, h2.1, h3.1, xmx_nI (by omega) (by omega), xmx_nI (by omega) (by omega), show (1 : Int32) = nI 1 from rfl, nI_add]
theorem mks_nI {k : Nat} (hk : k < 7) : mks (nI k) = nI (mkN k) := by
  rcases (show k = 0 ∨ k = 1 ∨ k = 2 ∨ k = 3 ∨ k = 4 ∨ k = 5 ∨ k = 6 by omega) with rfl | rfl | rfl | rfl | rfl | rfl | rfl <;> decide
theorem xmW_nI {c r : jS} {T n k : Nat} {ty oa ob od : Option Nat} (hk : k < 7) (hT : Ty c r T) (hM : Tm c r T n) (hy : lo T ty) (ha : lo n oa) (hb : lo n ob) (hd : lo n od) : xmW c (nI k) ty oa ob od = nI (mkN k + oz (lnN c) ty + oz (wdN c) oa + oz (wdN c) ob + oz (wdN c) od) := by
  unfold xmW
  rw [mks_nI hk, (ov_ln hT hy).1, (ov_wd hM ha).1, (ov_wd hM hb).1, (ov_wd hM hd).1, nI_add, nI_add, nI_add, nI_add]
/-! the reference's sums over a list of parts -/
def psl (oa ob od : Option Nat) : List Nat := oa.toList ++ (ob.toList ++ od.toList)
def sumL (f : Nat → Nat) : List Nat → Nat
  | [] => 0
  | p :: ps => f p + sumL f ps
def maxL (f : Nat → Nat) : Nat → List Nat → Nat
  | a, [] => a
  | a, p :: ps => maxL f (max a (f p)) ps
theorem mkS_nI {c r : jS} {T n : Nat} (hM : Tm c r T n) : ∀ (ps : List Nat) (a : Nat), (∀ p ∈ ps, p < n) → mkS r (nI a) ps = nI (a + sumL (szN c) ps)
  | [], a, _ => rfl
  | p :: ps, a, h => by
    have hp := (hM.2.2.2 p (h p List.mem_cons_self)).1
    show mkS r (nI a + r 40 p) ps = _
    rw [hp.1.2.2.2.2.2.2.2.1, hp.2.1.1, nI_add, mkS_nI hM ps _ (fun q hq => h q (List.mem_cons_of_mem _ hq))]
    show nI (a + szN c p + sumL (szN c) ps) = nI (a + (szN c p + sumL (szN c) ps))
    rw [Nat.add_assoc]
theorem mkD_nI {c r : jS} {T n : Nat} (hM : Tm c r T n) : ∀ (ps : List Nat) (a : Nat), a ≤ 40 → (∀ p ∈ ps, p < n) → mkD r (nI a) ps = nI (maxL (dpN c) a ps)
  | [], a, _, _ => rfl
  | p :: ps, a, ha, h => by
    have hp := (hM.2.2.2 p (h p List.mem_cons_self)).1
    have hd := hp.2.1.2.2.2.1
    show mkD r (if r 41 p ≤ nI a then nI a else r 41 p) ps = _
    rw [hp.1.2.2.2.2.2.2.2.2, hp.2.1.2.2.1]
    have e : (if nI (dpN c p) ≤ nI a then nI a else nI (dpN c p)) = nI (max a (dpN c p)) := by
      by_cases hq : dpN c p ≤ a
      · rw [if_pos (nI_le hq (by omega)), Nat.max_eq_left hq]
      · rw [if_neg (nI_ge (by omega) (by omega)), Nat.max_eq_right (by omega)]
    rw [e, mkD_nI hM ps _ (by omega) (fun q hq => h q (List.mem_cons_of_mem _ hq))]
    rfl
def fsum (v1 v3 : Int32) (F : Nat → Nat) (z : Nat) : Nat → List Nat → Nat
  | _, [] => 0
  | k, p :: ps => (if bdv v1 v3 (nI k) z = true then 0 else F p) + fsum v1 v3 F z (k + 1) ps
theorem adF_at {f : Nat → Int32} {t p z : Nat} {b : Nat → Bool} (hz : z < 26) : adF f t p b 26 (26 * t + z) = f (26 * t + z) + (if b z = true then 0 else f (26 * p + z)) := by
  unfold adF
  have hc : 26 * t ≤ 26 * t + z ∧ 26 * t + z < 26 * t + 26 := by omega
  rw [if_pos hc, show 26 * t + z - 26 * t = z by omega]
theorem adF_lt {f : Nat → Int32} {t p j : Nat} {b : Nat → Bool} (hj : j < 26 * t) : adF f t p b 26 j = f j := by
  unfold adF
  have hc : ¬ (26 * t ≤ j ∧ j < 26 * t + 26) := by omega
  rw [if_neg hc]
theorem mkF_lt {v1 v3 : Int32} {t j : Nat} (hj : j < 26 * t) : ∀ (ps : List Nat) (k : Nat) (f : Nat → Int32), mkF f t v1 v3 k ps j = f j
  | [], _, _ => rfl
  | p :: ps, k, f => by
    show mkF (adF f t p (bdv v1 v3 (nI k)) 26) t v1 v3 (k + 1) ps j = f j
    rw [mkF_lt hj ps, adF_lt hj]
theorem mkF_at {v1 v3 : Int32} {t z : Nat} {F : Nat → Nat} (hz : z < 26) : ∀ (ps : List Nat) (k : Nat) (f : Nat → Int32) (a : Nat), (∀ p ∈ ps, p < t ∧ f (26 * p + z) = nI (F p)) → f (26 * t + z) = nI a → mkF f t v1 v3 k ps (26 * t + z) = nI (a + fsum v1 v3 F z k ps)
  | [], _, _, _, _, ha => ha
  | p :: ps, k, f, a, h, ha => by
    have hp := h p List.mem_cons_self
    show mkF (adF f t p (bdv v1 v3 (nI k)) 26) t v1 v3 (k + 1) ps (26 * t + z) = _
    have h1 : ∀ q ∈ ps, q < t ∧ adF f t p (bdv v1 v3 (nI k)) 26 (26 * q + z) = nI (F q) := fun q hq => by
      have hq2 := h q (List.mem_cons_of_mem _ hq)
      have hl : 26 * q + z < 26 * t := by have := hq2.1; omega
      exact ⟨hq2.1, (adF_lt hl).trans hq2.2⟩
    have h2 : adF f t p (bdv v1 v3 (nI k)) 26 (26 * t + z) = nI (a + (if bdv v1 v3 (nI k) z = true then 0 else F p)) := by
      rw [adF_at hz, ha, hp.2]
      by_cases hb : bdv v1 v3 (nI k) z = true
      · rw [if_pos hb, if_pos hb, Int32.add_zero, Nat.add_zero]
      · rw [if_neg hb, if_neg hb, nI_add]
    rw [mkF_at (F := F) hz ps (k + 1) _ _ h1 h2, Nat.add_assoc]
    rfl
theorem inF_at {f : Nat → Int32} {t z : Nat} {v1 v3 : Int32} (hz : z < 26) : inF f t v1 v3 26 (26 * t + z) = if v1 = 1 ∧ nI z = v3 then 1 else 0 := by
  unfold inF
  have hc : 26 * t ≤ 26 * t + z ∧ 26 * t + z < 26 * t + 26 := by omega
  rw [if_pos hc, show 26 * t + z - 26 * t = z by omega]
theorem inF_lt {f : Nat → Int32} {t j : Nat} {v1 v3 : Int32} (hj : j < 26 * t) : inF f t v1 v3 26 j = f j := by
  unfold inF
  have hc : ¬ (26 * t ≤ j ∧ j < 26 * t + 26) := by omega
  rw [if_neg hc]
theorem nI_pv {z : Nat} {o : Option Nat} (hz : z < 26) (ho : lo 26 o) : (nI z = pv o) ↔ o = some z := by
  cases o with
  | none =>
    constructor
    · intro h; exact absurd h (nI_ne (by omega) (by decide))
    · intro h; cases h
  | some x =>
    have hx := ho x rfl
    show nI z = nI x ↔ _
    rw [nI_eq (by omega) (by omega)]
    constructor
    · intro h; rw [h]
    · intro h; exact (Option.some.inj h).symm
theorem bdv_nI {k j z : Nat} {lx : Option Nat} (hk : k < 7) (hj : j < 3) (hz : z < 26) (hx : lo 26 lx) : bdv (nI k) (pv lx) (nI j) z = (decide (lx = some z) && (decide (k = 2) || (decide (k = 4) && decide (j = 1)))) := by
  unfold bdv
  have e1 : decide (nI z = pv lx) = decide (lx = some z) := decide_eq_decide.mpr (nI_pv hz hx)
  have e2 : decide (nI k = 2) = decide (k = 2) := decide_eq_decide.mpr (nI_eq (b := 2) (by omega) (by decide))
  have e4 : decide (nI k = 4) = decide (k = 4) := decide_eq_decide.mpr (nI_eq (b := 4) (by omega) (by decide))
  have e5 : decide (nI j = 1) = decide (j = 1) := decide_eq_decide.mpr (nI_eq (b := 1) (by omega) (by decide))
  rw [e1, e2, e4, e5]
