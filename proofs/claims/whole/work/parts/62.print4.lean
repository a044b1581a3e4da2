def tyN (c : jS) (t : Nat) : Nat := (c 9 t).toNatClampNeg
def kiN (c : jS) (t : Nat) : Nat := (c 6 t).toNatClampNeg
/-- what a term says at its stage s -/
def emT (c : jS) (t k s : Nat) : List Nat :=
  if k = 0 then dgl (c 7 t)
  else if k = 1 then [97 + chN c t]
  else if k = 2 then (if s = 0 then [92] ++ ([97 + chN c t] ++ ([58] ++ (txT c 41 (tyN c t) ++ [46]))) else [])
  else if k = 4 then (if s = 0 then [91] ++ ([97 + chN c t] ++ [61]) else if s = 1 then [93] else [])
  else if k = 6 then (if s = 0 then [123] else if s = 1 then [63] else if s = 2 then [58] else [125])
  else (if s = 0 then [40] else if s = 2 then [41] else if k = 3 then [32] else [43])
def txP (c : jS) (E : Nat → List Nat) (t k : Nat) : Nat → Nat → List Nat
  | 0, s => emT c t k s
  | m + 1, s => emT c t k s ++ (E (c (10 + s) t).toNatClampNeg ++ txP c E t k m (s + 1))
def txE (c : jS) : Nat → Nat → List Nat
  | 0, _ => []
  | d + 1, t => txP c (txE c d) t (kiN c t) (kP (kiN c t)) 0
theorem kiN_k {c : jS} {t k : Nat} (h : c 6 t = nI k) (hk : k < 7) : kiN c t = k := by unfold kiN; rw [h, nI_clamp (show k < 2 ^ 31 by omega)]
theorem chN_k {c : jS} {t k : Nat} (h : c 8 t = nI k) (hk : k < 26) : chN c t = k := by unfold chN; rw [h, nI_clamp (show k < 2 ^ 31 by omega)]
theorem tyN_k {c : jS} {t k : Nat} (h : c 9 t = nI k) (hk : k < 40) : tyN c t = k := by unfold tyN; rw [h, nI_clamp (show k < 2 ^ 31 by omega)]
theorem cl_k {v : Int32} {k : Nat} (h : v = nI k) (hk : k < 400) : v.toNatClampNeg = k := by rw [h, nI_clamp (show k < 2 ^ 31 by omega)]
theorem txE_0 {c : jS} {d t : Nat} (h : c 6 t = nI 0) : txE c (d + 1) t = dgl (c 7 t) := by
  rw [txE, kiN_k h (by omega)]
  rfl
theorem txE_1 {c : jS} {d t x : Nat} (h : c 6 t = nI 1) (hx : c 8 t = nI x) (x26 : x < 26) : txE c (d + 1) t = [97 + x] := by
  rw [txE, kiN_k h (by omega)]
  show [97 + chN c t] = _
  rw [chN_k hx x26]
theorem txE_2 {c : jS} {d t x y a : Nat} (h : c 6 t = nI 2) (hx : c 8 t = nI x) (x26 : x < 26) (hy : c 9 t = nI y) (y40 : y < 40) (ha : c 10 t = nI a) (a4 : a < 400) : txE c (d + 1) t = [92] ++ ([97 + x] ++ ([58] ++ (txT c 41 y ++ ([46] ++ txE c d a)))) := by
  rw [txE, kiN_k h (by omega)]
  show ([92] ++ ([97 + chN c t] ++ ([58] ++ (txT c 41 (tyN c t) ++ [46])))) ++ (txE c d (c 10 t).toNatClampNeg ++ []) = _
  rw [chN_k hx x26, tyN_k hy y40, cl_k ha a4]
  simp only [List.append_assoc, List.append_nil]
theorem txE_35 {c : jS} {d t k a b : Nat} (hk : k = 3 ∨ k = 5) (h : c 6 t = nI k) (ha : c 10 t = nI a) (a4 : a < 400) (hb : c 11 t = nI b) (b4 : b < 400) : txE c (d + 1) t = [40] ++ (txE c d a ++ ([if k = 3 then 32 else 43] ++ (txE c d b ++ [41]))) := by
  rw [txE, kiN_k h (by omega)]
  rcases hk with rfl | rfl
  · show [40] ++ (txE c d (c 10 t).toNatClampNeg ++ ([32] ++ (txE c d (c 11 t).toNatClampNeg ++ [41]))) = _
    rw [cl_k ha a4, cl_k hb b4]
    rfl
  · show [40] ++ (txE c d (c 10 t).toNatClampNeg ++ ([43] ++ (txE c d (c 11 t).toNatClampNeg ++ [41]))) = _
    rw [cl_k ha a4, cl_k hb b4]
    rfl
theorem txE_4 {c : jS} {d t x a b : Nat} (h : c 6 t = nI 4) (hx : c 8 t = nI x) (x26 : x < 26) (ha : c 10 t = nI a) (a4 : a < 400) (hb : c 11 t = nI b) (b4 : b < 400) : txE c (d + 1) t = [91] ++ ([97 + x] ++ ([61] ++ (txE c d a ++ ([93] ++ txE c d b)))) := by
  rw [txE, kiN_k h (by omega)]
  show ([91] ++ ([97 + chN c t] ++ [61])) ++ (txE c d (c 10 t).toNatClampNeg ++ ([93] ++ (txE c d (c 11 t).toNatClampNeg ++ []))) = _
  rw [chN_k hx x26, cl_k ha a4, cl_k hb b4]
  simp only [List.append_assoc, List.append_nil]
theorem txE_6 {c : jS} {d t a b e : Nat} (h : c 6 t = nI 6) (ha : c 10 t = nI a) (a4 : a < 400) (hb : c 11 t = nI b) (b4 : b < 400) (he : c 12 t = nI e) (e4 : e < 400) : txE c (d + 1) t = [123] ++ (txE c d a ++ ([63] ++ (txE c d b ++ ([58] ++ (txE c d e ++ [125]))))) := by
  rw [txE, kiN_k h (by omega)]
  show [123] ++ (txE c d (c 10 t).toNatClampNeg ++ ([63] ++ (txE c d (c 11 t).toNatClampNeg ++ ([58] ++ (txE c d (c 12 t).toNatClampNeg ++ [125]))))) = _
  rw [cl_k ha a4, cl_k hb b4, cl_k he e4]
theorem dpp {c r : jS} {T n t : Nat} (hM : Tm c r T n) (ht : t < n) : 1 ≤ dpN c t := by
  obtain ⟨-, k, lx, ty, oa, ob', od, -, -, ⟨-, hdp⟩, -⟩ := hM.2.2.2 t ht
  omega
theorem txE_len {c r : jS} {T n : Nat} (hT : Ty c r T) (hM : Tm c r T n) : ∀ (d t : Nat), t < n → dpN c t ≤ d → (txE c d t).length = wdN c t
  | 0, t, ht, hd => by have := dpp hM ht; omega
  | d + 1, t, ht, hd => by
    have h4 := hM.2.2.1
    have h40 := hT.2.2.2.1
    obtain ⟨hC, k, lx, ty, oa, ob', od, hs, ⟨c6, c8, c9, c10, c11, c12, -⟩, ⟨-, hdp⟩, -, hwd⟩ := hM.2.2.2 t ht
    rcases shp_cases hs with ⟨rfl, rfl, rfl, rfl, rfl, rfl⟩ | ⟨rfl, x, hx, rfl, rfl, rfl, rfl, rfl⟩ | ⟨rfl, x, y, a, hx, hy, ha, rfl, rfl, rfl, rfl, rfl⟩ | ⟨rfl, a, b, ha, hb, rfl, rfl, rfl, rfl, rfl⟩ | ⟨rfl, x, a, b, hx, ha, hb, rfl, rfl, rfl, rfl, rfl⟩ | ⟨rfl, a, b, ha, hb, rfl, rfl, rfl, rfl, rfl⟩ | ⟨rfl, a, b, e, ha, hb, he, rfl, rfl, rfl, rfl, rfl⟩
    · rw [txE_0 c6, hwd, dgl_len]
      simp [oz]
    · rw [txE_1 c6 c8 hx, hwd]
      rfl
    · rw [txE_2 c6 c8 hx c9 (by omega) c10 (by omega), hwd]
      simp only [oz] at hdp
      simp only [oz, List.length_append, List.length_cons, List.length_nil, mkN]
      rw [txE_len hT hM d a (by omega) (by omega), txT_len hT 41 y (by omega) hy]
      simp
      omega
    · rw [txE_35 (Or.inl rfl) c6 c10 (by omega) c11 (by omega), hwd]
      simp only [oz] at hdp
      simp only [oz, List.length_append, List.length_cons, List.length_nil, mkN]
      rw [txE_len hT hM d a (by omega) (by omega), txE_len hT hM d b (by omega) (by omega)]
      simp
      omega
    · rw [txE_4 c6 c8 hx c10 (by omega) c11 (by omega), hwd]
      simp only [oz] at hdp
      simp only [oz, List.length_append, List.length_cons, List.length_nil, mkN]
      rw [txE_len hT hM d a (by omega) (by omega), txE_len hT hM d b (by omega) (by omega)]
      simp
      omega
    · rw [txE_35 (Or.inr rfl) c6 c10 (by omega) c11 (by omega), hwd]
      simp only [oz] at hdp
      simp only [oz, List.length_append, List.length_cons, List.length_nil, mkN]
      rw [txE_len hT hM d a (by omega) (by omega), txE_len hT hM d b (by omega) (by omega)]
      simp
      omega
    · rw [txE_6 c6 c10 (by omega) c11 (by omega) c12 (by omega), hwd]
      simp only [oz] at hdp
      simp only [oz, List.length_append, List.length_cons, List.length_nil, mkN]
      rw [txE_len hT hM d a (by omega) (by omega), txE_len hT hM d b (by omega) (by omega), txE_len hT hM d e (by omega) (by omega)]
      simp
      omega
