def tb (m : Int32) (x : Nat) : Bool := m.toBitVec.getLsbD x
theorem tb_and (a b : Int32) (x : Nat) : tb (a &&& b) x = (tb a x && tb b x) := by
  unfold tb
  rw [Int32.toBitVec_and, BitVec.getLsbD_and]
theorem tb_or (a b : Int32) (x : Nat) : tb (a ||| b) x = (tb a x || tb b x) := by
  unfold tb
  rw [Int32.toBitVec_or, BitVec.getLsbD_or]
theorem tb_not (a : Int32) {x : Nat} (h : x < 32) : tb (a ^^^ -1) x = !(tb a x) := by
  unfold tb
  rw [Int32.toBitVec_xor, BitVec.getLsbD_xor, show (-1 : Int32).toBitVec = BitVec.allOnes 32 by decide, BitVec.getLsbD_allOnes]
  simp [h]
theorem tb_0 (x : Nat) : tb 0 x = false := by
  unfold tb
  rw [show (0 : Int32).toBitVec = 0#32 by decide, BitVec.getLsbD_zero]
theorem tb_hi (m : Int32) {x : Nat} (h : 32 ≤ x) : tb m x = false := BitVec.getLsbD_of_ge _ _ h
theorem tb_bit : ∀ x, x < 26 → ∀ z, z < 32 → tb ((1 : Int32) <<< (nI x &&& 31)) z = decide (z = x) := by decide +kernel
theorem tb_bitv {o : Option Nat} (ho : lo 26 o) {z : Nat} (hz : z < 32) : tb (bitv o) z = decide (o = some z) := by
  cases o with
  | none => show tb 0 z = _; rw [tb_0]; simp
  | some x =>
    show tb ((1 : Int32) <<< (nI x &&& 31)) z = _
    rw [tb_bit x (ho x rfl) z hz]
    by_cases h : z = x
    · subst h; simp
    · have : ¬ x = z := fun e => h e.symm
      simp [h, this]
theorem tb_free {m : Int32} {x : Nat} (hx : x < 26) : (m &&& ((1 : Int32) <<< (nI x &&& 31))) = 0 ↔ tb m x = false := by
  constructor
  · intro h
    have e : tb (m &&& ((1 : Int32) <<< (nI x &&& 31))) x = tb 0 x := by rw [h]
    rw [tb_and, tb_bit x hx x (by omega), tb_0] at e
    simpa using e
  · intro h
    refine Int32.toBitVec.inj (BitVec.eq_of_getLsbD_eq (fun i hi => ?_))
    show tb (m &&& ((1 : Int32) <<< (nI x &&& 31))) i = tb 0 i
    rw [tb_and, tb_bit x hx i hi, tb_0]
    by_cases hxi : i = x
    · subst hxi; rw [h]; rfl
    · simp [hxi]
def szN (c : jS) (t : Nat) : Nat := (c 13 t).toNatClampNeg
def dpN (c : jS) (t : Nat) : Nat := (c 14 t).toNatClampNeg
def wdN (c : jS) (t : Nat) : Nat := (c 16 t).toNatClampNeg
def lnN (c : jS) (t : Nat) : Nat := (c 4 t).toNatClampNeg
def frN (r : jS) (t z : Nat) : Nat := (r 42 (26 * t + z)).toNatClampNeg
def shk : Nat → Bool × Bool × Bool × Bool × Bool
  | 0 => (false, false, false, false, false)
  | 1 => (true, false, false, false, false)
  | 2 => (true, true, true, false, false)
  | 3 => (false, false, true, true, false)
  | 4 => (true, false, true, true, false)
  | 5 => (false, false, true, true, false)
  | _ => (false, false, true, true, true)
def shp (T t k : Nat) (lx ty oa ob od : Option Nat) : Prop := k < 7 ∧ (lx.isSome, ty.isSome, oa.isSome, ob.isSome, od.isSome) = shk k ∧ lo 26 lx ∧ lo T ty ∧ lo t oa ∧ lo t ob ∧ lo t od
theorem shp_cases {T t k : Nat} {lx ty oa ob od : Option Nat} (h : shp T t k lx ty oa ob od) :
    (k = 0 ∧ lx = none ∧ ty = none ∧ oa = none ∧ ob = none ∧ od = none) ∨
    (k = 1 ∧ ∃ x, x < 26 ∧ lx = some x ∧ ty = none ∧ oa = none ∧ ob = none ∧ od = none) ∨
    (k = 2 ∧ ∃ x y a, x < 26 ∧ y < T ∧ a < t ∧ lx = some x ∧ ty = some y ∧ oa = some a ∧ ob = none ∧ od = none) ∨
    (k = 3 ∧ ∃ a b, a < t ∧ b < t ∧ lx = none ∧ ty = none ∧ oa = some a ∧ ob = some b ∧ od = none) ∨
    (k = 4 ∧ ∃ x a b, x < 26 ∧ a < t ∧ b < t ∧ lx = some x ∧ ty = none ∧ oa = some a ∧ ob = some b ∧ od = none) ∨
    (k = 5 ∧ ∃ a b, a < t ∧ b < t ∧ lx = none ∧ ty = none ∧ oa = some a ∧ ob = some b ∧ od = none) ∨
    (k = 6 ∧ ∃ a b d, a < t ∧ b < t ∧ d < t ∧ lx = none ∧ ty = none ∧ oa = some a ∧ ob = some b ∧ od = some d) := by
  obtain ⟨hk, hs, h1, h2, h3, h4, h5⟩ := h
  rcases (show k = 0 ∨ k = 1 ∨ k = 2 ∨ k = 3 ∨ k = 4 ∨ k = 5 ∨ k = 6 by omega) with rfl | rfl | rfl | rfl | rfl | rfl | rfl
  · refine Or.inl ⟨rfl, ?_⟩
    cases lx <;> cases ty <;> cases oa <;> cases ob <;> cases od <;> simp [shk] at hs ⊢
  · refine Or.inr (Or.inl ⟨rfl, ?_⟩)
    cases lx <;> cases ty <;> cases oa <;> cases ob <;> cases od <;> simp [shk] at hs
    rename_i x
    exact ⟨x, h1 x rfl, rfl, rfl, rfl, rfl, rfl⟩
  · refine Or.inr (Or.inr (Or.inl ⟨rfl, ?_⟩))
    cases lx <;> cases ty <;> cases oa <;> cases ob <;> cases od <;> simp [shk] at hs
    rename_i x y a
    exact ⟨x, y, a, h1 x rfl, h2 y rfl, h3 a rfl, rfl, rfl, rfl, rfl, rfl⟩
  · refine Or.inr (Or.inr (Or.inr (Or.inl ⟨rfl, ?_⟩)))
    cases lx <;> cases ty <;> cases oa <;> cases ob <;> cases od <;> simp [shk] at hs
    rename_i a b
    exact ⟨a, b, h3 a rfl, h4 b rfl, rfl, rfl, rfl, rfl, rfl⟩
  · refine Or.inr (Or.inr (Or.inr (Or.inr (Or.inl ⟨rfl, ?_⟩))))
    cases lx <;> cases ty <;> cases oa <;> cases ob <;> cases od <;> simp [shk] at hs
    rename_i x a b
    exact ⟨x, a, b, h1 x rfl, h3 a rfl, h4 b rfl, rfl, rfl, rfl, rfl, rfl⟩
  · refine Or.inr (Or.inr (Or.inr (Or.inr (Or.inr (Or.inl ⟨rfl, ?_⟩)))))
    cases lx <;> cases ty <;> cases oa <;> cases ob <;> cases od <;> simp [shk] at hs
    rename_i a b
    exact ⟨a, b, h3 a rfl, h4 b rfl, rfl, rfl, rfl, rfl, rfl⟩
  · refine Or.inr (Or.inr (Or.inr (Or.inr (Or.inr (Or.inr ⟨rfl, ?_⟩)))))
    cases lx <;> cases ty <;> cases oa <;> cases ob <;> cases od <;> simp [shk] at hs
    rename_i a b d
    exact ⟨a, b, d, h3 a rfl, h4 b rfl, h5 d rfl, rfl, rfl, rfl, rfl, rfl⟩
def frq (k : Nat) (lx : Option Nat) (z a b d : Nat) : Nat := if k = 1 then (if lx = some z then 1 else 0) else if k = 2 then (if lx = some z then 0 else a) else if k = 4 then a + (if lx = some z then 0 else b) else a + b + d
def mkN : Nat → Nat
  | 1 => 1
  | 2 => 4
  | 3 => 3
  | 4 => 4
  | 5 => 3
  | 6 => 4
  | _ => 0
def nd0 : Nat → Nat → Nat
  | 0, _ => 0
  | f + 1, m => if m = 0 then 0 else nd0 f (m / 10) + 1
def dgN (v : Int32) : Nat := 1 + nd0 10 (v.toInt.natAbs / 10) + (if v < 0 then 1 else 0)
def Nod (c r : jS) (T t k : Nat) (lx ty oa ob od : Option Nat) : Prop :=
  shp T t k lx ty oa ob od ∧ (c 6 t = nI k ∧ c 8 t = pv lx ∧ c 9 t = pv ty ∧ c 10 t = pv oa ∧ c 11 t = pv ob ∧ c 12 t = pv od ∧ (k ≠ 0 → c 7 t = 0)) ∧
  (szN c t = 1 + oz (szN c) oa + oz (szN c) ob + oz (szN c) od ∧ dpN c t = 1 + max (oz (dpN c) oa) (max (oz (dpN c) ob) (oz (dpN c) od))) ∧
  (∀ z, z < 26 → frN r t z = frq k lx z (oz (fun p => frN r p z) oa) (oz (fun p => frN r p z) ob) (oz (fun p => frN r p z) od)) ∧
  wdN c t = (if k = 0 then dgN (c 7 t) else mkN k) + oz (lnN c) ty + oz (wdN c) oa + oz (wdN c) ob + oz (wdN c) od
def Com (c r : jS) (t : Nat) : Prop :=
  (r 35 t = c 6 t ∧ r 36 t = c 7 t ∧ r 37 t = c 8 t ∧ r 38 t = c 9 t ∧ r 39 (3 * t) = c 10 t ∧ r 39 (3 * t + 1) = c 11 t ∧ r 39 (3 * t + 2) = c 12 t ∧ r 40 t = c 13 t ∧ r 41 t = c 14 t) ∧
  (c 13 t = nI (szN c t) ∧ szN c t ≤ 1000 ∧ c 14 t = nI (dpN c t) ∧ dpN c t ≤ 40 ∧ c 16 t = nI (wdN c t) ∧ wdN c t ≤ 60 * szN c t) ∧
  (∀ z, z < 26 → r 42 (26 * t + z) = nI (frN r t z) ∧ frN r t z ≤ szN c t ∧ tb (c 15 t) z = decide (0 < frN r t z)) ∧ (∀ z, 26 ≤ z → tb (c 15 t) z = false)
def Tm (c r : jS) (T n : Nat) : Prop := c 5 12 = nI n ∧ r 30 5 = nI n ∧ n ≤ 400 ∧ ∀ t, t < n → Com c r t ∧ ∃ k lx ty oa ob od, Nod c r T t k lx ty oa ob od
def Ty (c r : jS) (T : Nat) : Prop := c 1 3 = nI T ∧ r 30 0 = nI T ∧ 1 ≤ T ∧ T ≤ 40 ∧ (∀ i, i < T → r 31 i = c 2 i ∧ r 32 i = c 3 i ∧ r 33 i = c 4 i ∧ c 4 i = nI (lnN c i) ∧ lnN c i ≤ 40) ∧ (c 2 0 = -2 ∧ c 3 0 = -2 ∧ c 4 0 = 1) ∧ ∀ i, 1 ≤ i → i < T → ∃ a b, a < i ∧ b < i ∧ c 2 i = nI a ∧ c 3 i = nI b ∧ lnN c i = lnN c a + lnN c b + 3
def AgX (n : Nat) (c c' : jS) : Prop := ∀ p, 6 ≤ p → p ≤ 16 → ∀ t, t < n → c' p t = c p t
def AgM (n : Nat) (r r' : jS) : Prop := (∀ p, 35 ≤ p → p ≤ 41 → p ≠ 39 → ∀ t, t < n → r' p t = r p t) ∧ (∀ j, j < 3 * n → r' 39 j = r 39 j) ∧ (∀ j, j < 26 * n → r' 42 j = r 42 j)
theorem oz_congr {f g : Nat → Nat} {t : Nat} {o : Option Nat} (ho : lo t o) (h : ∀ p, p < t → f p = g p) : oz f o = oz g o := by
  cases o with
  | none => rfl
  | some p => exact h p (ho p rfl)
theorem Com_congr {n t : Nat} {c c' r r' : jS} (hx : AgX n c c') (hm : AgM n r r') (ht : t < n) (h : Com c r t) : Com c' r' t := by
  obtain ⟨m1, m2, m3⟩ := hm
  have s13 : szN c' t = szN c t := by unfold szN; rw [hx 13 (by omega) (by omega) t ht]
  have s14 : dpN c' t = dpN c t := by unfold dpN; rw [hx 14 (by omega) (by omega) t ht]
  have s16 : wdN c' t = wdN c t := by unfold wdN; rw [hx 16 (by omega) (by omega) t ht]
  have s42 : ∀ z, z < 26 → frN r' t z = frN r t z := by intro z hz; unfold frN; rw [m3 _ (by omega)]
  unfold Com
  rw [s13, s14, s16, hx 6 (by omega) (by omega) t ht, hx 7 (by omega) (by omega) t ht, hx 8 (by omega) (by omega) t ht, hx 9 (by omega) (by omega) t ht, hx 10 (by omega) (by omega) t ht, hx 11 (by omega) (by omega) t ht, hx 12 (by omega) (by omega) t ht, hx 13 (by omega) (by omega) t ht, hx 14 (by omega) (by omega) t ht, hx 15 (by omega) (by omega) t ht, hx 16 (by omega) (by omega) t ht,
    m1 35 (by omega) (by omega) (by omega) t ht, m1 36 (by omega) (by omega) (by omega) t ht, m1 37 (by omega) (by omega) (by omega) t ht, m1 38 (by omega) (by omega) (by omega) t ht, m1 40 (by omega) (by omega) (by omega) t ht, m1 41 (by omega) (by omega) (by omega) t ht, m2 _ (show 3 * t < 3 * n by omega), m2 _ (show 3 * t + 1 < 3 * n by omega), m2 _ (show 3 * t + 2 < 3 * n by omega)]
  refine ⟨h.1, h.2.1, ?_, h.2.2.2⟩
  intro z hz
  rw [s42 z hz, m3 _ (show 26 * t + z < 26 * n by omega)]
  exact h.2.2.1 z hz
theorem Nod_congr {n t T k : Nat} {c c' r r' : jS} {lx ty oa ob od : Option Nat} (hx : AgX n c c') (hm : AgM n r r') (hl : ∀ i, i < T → c' 4 i = c 4 i) (ht : t < n) (h : Nod c r T t k lx ty oa ob od) : Nod c' r' T t k lx ty oa ob od := by
  obtain ⟨m1, m2, m3⟩ := hm
  obtain ⟨hs, hc, hd, hf, hw⟩ := h
  obtain ⟨-, -, g1, g2, g3, g4, g5⟩ := id hs
  have s13 : ∀ p, p < n → szN c' p = szN c p := by intro p hp; unfold szN; rw [hx 13 (by omega) (by omega) p hp]
  have s14 : ∀ p, p < n → dpN c' p = dpN c p := by intro p hp; unfold dpN; rw [hx 14 (by omega) (by omega) p hp]
  have s16 : ∀ p, p < n → wdN c' p = wdN c p := by intro p hp; unfold wdN; rw [hx 16 (by omega) (by omega) p hp]
  have s4 : ∀ p, p < T → lnN c' p = lnN c p := by intro p hp; unfold lnN; rw [hl p hp]
  have s42 : ∀ z, z < 26 → ∀ p, p < n → frN r' p z = frN r p z := by intro z hz p hp; unfold frN; rw [m3 _ (by omega)]
  have b : ∀ {o : Option Nat}, lo t o → lo n o := fun ho p hp => Nat.lt_trans (ho p hp) ht
  refine ⟨hs, ?_, ?_, ?_, ?_⟩
  · rw [hx 6 (by omega) (by omega) t ht, hx 7 (by omega) (by omega) t ht, hx 8 (by omega) (by omega) t ht, hx 9 (by omega) (by omega) t ht, hx 10 (by omega) (by omega) t ht, hx 11 (by omega) (by omega) t ht, hx 12 (by omega) (by omega) t ht]
    exact hc
  · rw [s13 t ht, s14 t ht, oz_congr (b g3) s13, oz_congr (b g4) s13, oz_congr (b g5) s13, oz_congr (b g3) s14, oz_congr (b g4) s14, oz_congr (b g5) s14]
    exact hd
  · intro z hz
    rw [s42 z hz t ht, oz_congr (b g3) (s42 z hz), oz_congr (b g4) (s42 z hz), oz_congr (b g5) (s42 z hz)]
    exact hf z hz
  · rw [s16 t ht, hx 7 (by omega) (by omega) t ht, oz_congr g2 s4, oz_congr (b g3) s16, oz_congr (b g4) s16, oz_congr (b g5) s16]
    exact hw
theorem Nod_mono {T T' t k : Nat} {c r : jS} {lx ty oa ob od : Option Nat} (hT : T ≤ T') (h : Nod c r T t k lx ty oa ob od) : Nod c r T' t k lx ty oa ob od := by
  obtain ⟨⟨a1, a2, a3, a4, a5⟩, h⟩ := h
  exact ⟨⟨a1, a2, a3, fun p hp => Nat.lt_of_lt_of_le (a4 p hp) hT, a5⟩, h⟩
theorem Tm_of {T n m : Nat} {c c' r r' : jS} (hmn : m ≤ n) (hx : AgX m c c') (hm : AgM m r r') (hl : ∀ i, i < T → c' 4 i = c 4 i) (h5 : c' 5 12 = nI m) (h30 : r' 30 5 = nI m) (h : Tm c r T n) : Tm c' r' T m := by
  obtain ⟨-, -, h4, h⟩ := h
  refine ⟨h5, h30, by omega, fun t ht => ?_⟩
  obtain ⟨a, k, lx, ty, oa, ob, od, b⟩ := h t (by omega)
  exact ⟨Com_congr hx hm ht a, k, lx, ty, oa, ob, od, Nod_congr hx hm hl ht b⟩
theorem Tm_mono {T T' n : Nat} {c r : jS} (hT : T ≤ T') (h : Tm c r T n) : Tm c r T' n := by
  obtain ⟨a, b, d, h⟩ := h
  refine ⟨a, b, d, fun t ht => ?_⟩
  obtain ⟨a, k, lx, ty, oa, ob, od, b⟩ := h t ht
  exact ⟨a, k, lx, ty, oa, ob, od, Nod_mono hT b⟩
theorem Tm_push {T n k : Nat} {c c' r r' : jS} {lx ty oa ob od : Option Nat} (hn : n < 400) (hx : AgX n c c') (hm : AgM n r r') (hl : ∀ i, i < T → c' 4 i = c 4 i) (h5 : c' 5 12 = nI (n + 1)) (h30 : r' 30 5 = nI (n + 1)) (h : Tm c r T n) (hc : Com c' r' n) (hN : Nod c' r' T n k lx ty oa ob od) : Tm c' r' T (n + 1) := by
  obtain ⟨-, -, h4, h⟩ := h
  refine ⟨h5, h30, by omega, fun t ht => ?_⟩
  by_cases htn : t = n
  · subst htn
    exact ⟨hc, k, lx, ty, oa, ob, od, hN⟩
  · obtain ⟨a, k, lx, ty, oa, ob, od, b⟩ := h t (by omega)
    exact ⟨Com_congr hx hm (by omega) a, k, lx, ty, oa, ob, od, Nod_congr hx hm hl (by omega) b⟩
