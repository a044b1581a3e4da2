theorem hc_w {c0 c c1 : jS} {L : Nat} {l : List Nat} (s : WX c c1 L l) (hc : ∀ p, p ≠ 26 → p ≠ 27 → c p = c0 p) : ∀ p, p ≠ 26 → p ≠ 27 → c1 p = c0 p := fun p h1 h2 => (s.1 p h1 h2).trans (hc p h1 h2)
theorem w_let {c : jS} {L x : Nat} (h : c 26 3 = nI L) (hL : L < 4000) (hx : x < 26) : ∃ c', xPrinter_writeLetter c (nI x) = some ((), c') ∧ WX c c' L [97 + x] := by
  obtain ⟨c1, e1, s1⟩ := w_1 (x := 97 + x) h hL (by omega)
  refine ⟨c1, ?_, s1⟩
  unfold xPrinter_writeLetter
  rw [show (97 : Int32) = nI 97 from rfl, nI_add, e1, bd_s]
def WT (c0 : jS) (n d g : Nat) : Prop := ∀ (t L : Nat) (c : jS), dpN c0 t ≤ d → t < n → (∀ p, p ≠ 26 → p ≠ 27 → c p = c0 p) → c 26 3 = nI L → L + wdN c0 t ≤ 4000 → ∃ c', xPrinter_writeTerm g c (nI t) = some ((), c') ∧ WX c c' L (txE c0 d t)
theorem w_pair {c0 r0 : jS} {T n d g t a b z L : Nat} {c : jS} (hT : Ty c0 r0 T) (hM : Tm c0 r0 T n) (ih : WT c0 n d g) (ht : t < n) (ha : c0 10 t = nI a) (hb : c0 11 t = nI b) (an : a < n) (bn : b < n) (da : dpN c0 a ≤ d) (db : dpN c0 b ≤ d) (hz : z < 128) (hc : ∀ p, p ≠ 26 → p ≠ 27 → c p = c0 p) (hL : c 26 3 = nI L) (hw : L + (3 + wdN c0 a + wdN c0 b) ≤ 4000) :
    ∃ c', xPrinter_writePair (g + 1) c (nI t) (nI z) = some ((), c') ∧ WX c c' L ([40] ++ (txE c0 d a ++ ([z] ++ (txE c0 d b ++ [41])))) := by
  have h4 := hM.2.2.1
  have la := txE_len hT hM d a an da
  have lb := txE_len hT hM d b bn db
  have N5 : ∀ {c1 : jS}, (∀ p, p ≠ 26 → p ≠ 27 → c1 p = c0 p) → c1 5 12 = nI n := fun h => by rw [h 5 (by omega) (by omega)]; exact hM.1
  obtain ⟨c1, q1, s1⟩ := w_1 (x := 40) hL (by omega) (by omega)
  have hc1 := hc_w s1 hc
  obtain ⟨c2, q2, s2⟩ := ih a (L + 1) c1 da an hc1 s1.2.1 (by omega)
  have hc2 := hc_w s2 hc1
  obtain ⟨c3, q3, s3⟩ := w_1 (x := z) s2.2.1 (by omega) hz
  have hc3 := hc_w s3 hc2
  obtain ⟨c4, q4, s4⟩ := ih b (L + 1 + (txE c0 d a).length + 1) c3 db bn hc3 s3.2.1 (by omega)
  have hc4 := hc_w s4 hc3
  obtain ⟨c5, q5, s5⟩ := w_1 (x := 41) s4.2.1 (by omega) (by omega)
  refine ⟨c5, ?_, s1.tr (s2.tr (s3.tr (s4.tr s5)))⟩
  rw [xPrinter_writePair_s]
  unfold b_xPrinter_writePair
  rw [show (40 : Int32) = nI 40 from rfl, q1, bd_s, x_firstOf_t (N5 hc1) h4 ht, ob_s, hc1 10 (by omega) (by omega), ha, q2, bd_s, q3, bd_s, x_secondOf_t (N5 hc3) h4 ht, ob_s, hc3 11 (by omega) (by omega), hb, q4, bd_s, show (41 : Int32) = nI 41 from rfl, q5, bd_s]
theorem w_fun {c0 r0 : jS} {T n d g t a x y L : Nat} {c : jS} (hT : Ty c0 r0 T) (hM : Tm c0 r0 T n) (ih : WT c0 n d g) (ht : t < n) (hx : c0 8 t = nI x) (x26 : x < 26) (hy : c0 9 t = nI y) (yT : y < T) (ha : c0 10 t = nI a) (an : a < n) (da : dpN c0 a ≤ d) (hc : ∀ p, p ≠ 26 → p ≠ 27 → c p = c0 p) (hL : c 26 3 = nI L) (hw : L + (4 + lnN c0 y + wdN c0 a) ≤ 4000) :
    ∃ c', xPrinter_writeFunction (g + 1) c (nI t) = some ((), c') ∧ WX c c' L ([92] ++ ([97 + x] ++ ([58] ++ (txT c0 41 y ++ ([46] ++ txE c0 d a))))) := by
  have h4 := hM.2.2.1
  have h40 := hT.2.2.2.1
  have la := txE_len hT hM d a an da
  have ly := txT_len hT 41 y (by omega) yT
  have N5 : ∀ {c1 : jS}, (∀ p, p ≠ 26 → p ≠ 27 → c1 p = c0 p) → c1 5 12 = nI n := fun h => by rw [h 5 (by omega) (by omega)]; exact hM.1
  obtain ⟨c1, q1, s1⟩ := w_1 (x := 92) hL (by omega) (by omega)
  have hc1 := hc_w s1 hc
  obtain ⟨c2, q2, s2⟩ := w_let s1.2.1 (show L + 1 < 4000 by omega) x26
  have hc2 := hc_w s2 hc1
  obtain ⟨c3, q3, s3⟩ := w_1 (x := 58) s2.2.1 (show L + 1 + 1 < 4000 by omega) (by omega)
  have hc3 := hc_w s3 hc2
  obtain ⟨c4, q4, s4⟩ := w_type hT 41 130 y (L + 1 + 1 + 1) c3 (by omega) (by omega) yT hc3 s3.2.1 (by omega)
  have hc4 := hc_w s4 hc3
  obtain ⟨c5, q5, s5⟩ := w_1 (x := 46) s4.2.1 (by omega) (by omega)
  have hc5 := hc_w s5 hc4
  obtain ⟨c6, q6, s6⟩ := ih a (L + 1 + 1 + 1 + (txT c0 41 y).length + 1) c5 da an hc5 s5.2.1 (by omega)
  refine ⟨c6, ?_, s1.tr (s2.tr (s3.tr (s4.tr (s5.tr s6))))⟩
  rw [xPrinter_writeFunction_s]
  unfold b_xPrinter_writeFunction
  rw [show (92 : Int32) = nI 92 from rfl, q1, bd_s, x_letterOf_t (N5 hc1) h4 ht, ob_s, hc1 8 (by omega) (by omega), hx, q2, bd_s, show (58 : Int32) = nI 58 from rfl, q3, bd_s, x_typeOf_t (N5 hc3) h4 ht, ob_s, hc3 9 (by omega) (by omega), hy, q4, bd_s, show (46 : Int32) = nI 46 from rfl, q5, bd_s, x_firstOf_t (N5 hc5) h4 ht, ob_s, hc5 10 (by omega) (by omega), ha, q6, bd_s]
theorem w_lets {c0 r0 : jS} {T n d g t a b x L : Nat} {c : jS} (hT : Ty c0 r0 T) (hM : Tm c0 r0 T n) (ih : WT c0 n d g) (ht : t < n) (hx : c0 8 t = nI x) (x26 : x < 26) (ha : c0 10 t = nI a) (an : a < n) (da : dpN c0 a ≤ d) (hb : c0 11 t = nI b) (bn : b < n) (db : dpN c0 b ≤ d) (hc : ∀ p, p ≠ 26 → p ≠ 27 → c p = c0 p) (hL : c 26 3 = nI L) (hw : L + (4 + wdN c0 a + wdN c0 b) ≤ 4000) :
    ∃ c', xPrinter_writeLet (g + 1) c (nI t) = some ((), c') ∧ WX c c' L ([91] ++ ([97 + x] ++ ([61] ++ (txE c0 d a ++ ([93] ++ txE c0 d b))))) := by
  have h4 := hM.2.2.1
  have la := txE_len hT hM d a an da
  have lb := txE_len hT hM d b bn db
  have N5 : ∀ {c1 : jS}, (∀ p, p ≠ 26 → p ≠ 27 → c1 p = c0 p) → c1 5 12 = nI n := fun h => by rw [h 5 (by omega) (by omega)]; exact hM.1
  obtain ⟨c1, q1, s1⟩ := w_1 (x := 91) hL (by omega) (by omega)
  have hc1 := hc_w s1 hc
  obtain ⟨c2, q2, s2⟩ := w_let s1.2.1 (show L + 1 < 4000 by omega) x26
  have hc2 := hc_w s2 hc1
  obtain ⟨c3, q3, s3⟩ := w_1 (x := 61) s2.2.1 (show L + 1 + 1 < 4000 by omega) (by omega)
  have hc3 := hc_w s3 hc2
  obtain ⟨c4, q4, s4⟩ := ih a (L + 1 + 1 + 1) c3 da an hc3 s3.2.1 (by omega)
  have hc4 := hc_w s4 hc3
  obtain ⟨c5, q5, s5⟩ := w_1 (x := 93) s4.2.1 (by omega) (by omega)
  have hc5 := hc_w s5 hc4
  obtain ⟨c6, q6, s6⟩ := ih b (L + 1 + 1 + 1 + (txE c0 d a).length + 1) c5 db bn hc5 s5.2.1 (by omega)
  refine ⟨c6, ?_, s1.tr (s2.tr (s3.tr (s4.tr (s5.tr s6))))⟩
  rw [xPrinter_writeLet_s]
  unfold b_xPrinter_writeLet
  rw [show (91 : Int32) = nI 91 from rfl, q1, bd_s, x_letterOf_t (N5 hc1) h4 ht, ob_s, hc1 8 (by omega) (by omega), hx, q2, bd_s, show (61 : Int32) = nI 61 from rfl, q3, bd_s, x_firstOf_t (N5 hc3) h4 ht, ob_s, hc3 10 (by omega) (by omega), ha, q4, bd_s, show (93 : Int32) = nI 93 from rfl, q5, bd_s, x_secondOf_t (N5 hc5) h4 ht, ob_s, hc5 11 (by omega) (by omega), hb, q6, bd_s]
theorem w_choice {c0 r0 : jS} {T n d g t a b e L : Nat} {c : jS} (hT : Ty c0 r0 T) (hM : Tm c0 r0 T n) (ih : WT c0 n d g) (ht : t < n) (ha : c0 10 t = nI a) (an : a < n) (da : dpN c0 a ≤ d) (hb : c0 11 t = nI b) (bn : b < n) (db : dpN c0 b ≤ d) (he : c0 12 t = nI e) (en : e < n) (de : dpN c0 e ≤ d) (hc : ∀ p, p ≠ 26 → p ≠ 27 → c p = c0 p) (hL : c 26 3 = nI L) (hw : L + (4 + wdN c0 a + wdN c0 b + wdN c0 e) ≤ 4000) :
    ∃ c', xPrinter_writeChoice (g + 1) c (nI t) = some ((), c') ∧ WX c c' L ([123] ++ (txE c0 d a ++ ([63] ++ (txE c0 d b ++ ([58] ++ (txE c0 d e ++ [125])))))) := by
  have h4 := hM.2.2.1
  have la := txE_len hT hM d a an da
  have lb := txE_len hT hM d b bn db
  have le := txE_len hT hM d e en de
  have N5 : ∀ {c1 : jS}, (∀ p, p ≠ 26 → p ≠ 27 → c1 p = c0 p) → c1 5 12 = nI n := fun h => by rw [h 5 (by omega) (by omega)]; exact hM.1
  obtain ⟨c1, q1, s1⟩ := w_1 (x := 123) hL (by omega) (by omega)
  have hc1 := hc_w s1 hc
  obtain ⟨c2, q2, s2⟩ := ih a (L + 1) c1 da an hc1 s1.2.1 (by omega)
  have hc2 := hc_w s2 hc1
  obtain ⟨c3, q3, s3⟩ := w_1 (x := 63) s2.2.1 (by omega) (by omega)
  have hc3 := hc_w s3 hc2
  obtain ⟨c4, q4, s4⟩ := ih b (L + 1 + (txE c0 d a).length + 1) c3 db bn hc3 s3.2.1 (by omega)
  have hc4 := hc_w s4 hc3
  obtain ⟨c5, q5, s5⟩ := w_1 (x := 58) s4.2.1 (by omega) (by omega)
  have hc5 := hc_w s5 hc4
  obtain ⟨c6, q6, s6⟩ := ih e (L + 1 + (txE c0 d a).length + 1 + (txE c0 d b).length + 1) c5 de en hc5 s5.2.1 (by omega)
  have hc6 := hc_w s6 hc5
  obtain ⟨c7, q7, s7⟩ := w_1 (x := 125) s6.2.1 (by omega) (by omega)
  refine ⟨c7, ?_, s1.tr (s2.tr (s3.tr (s4.tr (s5.tr (s6.tr s7)))))⟩
  rw [xPrinter_writeChoice_s]
  unfold b_xPrinter_writeChoice
  rw [show (123 : Int32) = nI 123 from rfl, q1, bd_s, x_firstOf_t (N5 hc1) h4 ht, ob_s, hc1 10 (by omega) (by omega), ha, q2, bd_s, show (63 : Int32) = nI 63 from rfl, q3, bd_s, x_secondOf_t (N5 hc3) h4 ht, ob_s, hc3 11 (by omega) (by omega), hb, q4, bd_s, show (58 : Int32) = nI 58 from rfl, q5, bd_s, x_thirdOf_t (N5 hc5) h4 ht, ob_s, hc5 12 (by omega) (by omega), he, q6, bd_s, show (125 : Int32) = nI 125 from rfl, q7, bd_s]
theorem w_term {c0 r0 : jS} {T n : Nat} (hT : Ty c0 r0 T) (hM : Tm c0 r0 T n) : ∀ (d g : Nat), 2 * d ≤ g → WT c0 n d g
  | 0, g, hg => fun t L c hd ht hc hL hw => by have := dpp hM ht; omega
  | d + 1, g, hg => fun t L c hd ht hc hL hw => by
    obtain ⟨g, rfl⟩ : ∃ g', g = g' + 1 + 1 := ⟨g - 2, by omega⟩
    have ih := w_term hT hM d g (by omega)
    have h4 := hM.2.2.1
    have h40 := hT.2.2.2.1
    have n5 : c 5 12 = nI n := by rw [hc 5 (by omega) (by omega)]; exact hM.1
    obtain ⟨hC, k, lx, ty, oa, ob', od, hs, ⟨c6, c8, c9, c10, c11, c12, -⟩, ⟨-, hdp⟩, -, hwd⟩ := hM.2.2.2 t ht
    rw [xPrinter_writeTerm_s]
    unfold b_xPrinter_writeTerm
    rw [x_kindOf_t n5 h4 ht, ob_s, hc 6 (by omega) (by omega), c6]
    rcases shp_cases hs with ⟨rfl, rfl, rfl, rfl, rfl, rfl⟩ | ⟨rfl, x, hx, rfl, rfl, rfl, rfl, rfl⟩ | ⟨rfl, x, y, a, hx, hy, ha, rfl, rfl, rfl, rfl, rfl⟩ | ⟨rfl, a, b, ha, hb, rfl, rfl, rfl, rfl, rfl⟩ | ⟨rfl, x, a, b, hx, ha, hb, rfl, rfl, rfl, rfl, rfl⟩ | ⟨rfl, a, b, ha, hb, rfl, rfl, rfl, rfl, rfl⟩ | ⟨rfl, a, b, e, ha, hb, he, rfl, rfl, rfl, rfl, rfl⟩
    · simp only [oz, if_pos] at hwd
      have hw0 : wdN c0 t = dgN (c0 7 t) := by omega
      have c16 : c0 16 t = nI (dgN (c0 7 t)) := by rw [← hw0]; exact hC.2.1.2.2.2.2.1
      obtain ⟨c', e1, s1⟩ := w_num (v := c0 7 t) hL (by omega)
      refine ⟨c', ?_, by rw [txE_0 c6]; exact s1⟩
      rw [if_pos (by decide), x_numberOf_t n5 h4 ht, ob_s, x_widthOf_t n5 h4 ht, ob_s, hc 7 (by omega) (by omega), hc 16 (by omega) (by omega), c16, e1, bd_s]
    · simp only [oz, mkN] at hwd
      obtain ⟨c', e1, s1⟩ := w_let hL (show L < 4000 by simp at hwd; omega) hx
      refine ⟨c', ?_, by rw [txE_1 c6 c8 hx]; exact s1⟩
      rw [if_neg (by decide), if_pos (by decide), x_letterOf_t n5 h4 ht, ob_s, hc 8 (by omega) (by omega), c8]
      show bd (xPrinter_writeLetter c (nI x)) _ = _
      rw [e1, bd_s]
    · simp only [oz, mkN] at hwd hdp
      simp at hwd
      obtain ⟨c', e1, s1⟩ := w_fun hT hM ih ht c8 hx c9 hy c10 (by omega) (by omega) hc hL (by omega)
      refine ⟨c', ?_, by rw [txE_2 c6 c8 hx c9 (by omega) c10 (by omega)]; exact s1⟩
      rw [if_neg (by decide), if_neg (by decide), if_pos (by decide), e1, bd_s]
    · simp only [oz, mkN] at hwd hdp
      simp at hwd
      obtain ⟨c', e1, s1⟩ := w_pair (z := 32) hT hM ih ht c10 c11 (by omega) (by omega) (by omega) (by omega) (by omega) hc hL (by omega)
      refine ⟨c', ?_, by rw [txE_35 (Or.inl rfl) c6 c10 (by omega) c11 (by omega)]; exact s1⟩
      rw [if_neg (by decide), if_neg (by decide), if_neg (by decide), if_pos (by decide), show (32 : Int32) = nI 32 from rfl, e1, bd_s]
    · simp only [oz, mkN] at hwd hdp
      simp at hwd
      obtain ⟨c', e1, s1⟩ := w_lets hT hM ih ht c8 hx c10 (by omega) (by omega) c11 (by omega) (by omega) hc hL (by omega)
      refine ⟨c', ?_, by rw [txE_4 c6 c8 hx c10 (by omega) c11 (by omega)]; exact s1⟩
      rw [if_neg (by decide), if_neg (by decide), if_neg (by decide), if_neg (by decide), if_pos (by decide), e1, bd_s]
    · simp only [oz, mkN] at hwd hdp
      simp at hwd
      obtain ⟨c', e1, s1⟩ := w_pair (z := 43) hT hM ih ht c10 c11 (by omega) (by omega) (by omega) (by omega) (by omega) hc hL (by omega)
      refine ⟨c', ?_, by rw [txE_35 (Or.inr rfl) c6 c10 (by omega) c11 (by omega)]; exact s1⟩
      rw [if_neg (by decide), if_neg (by decide), if_neg (by decide), if_neg (by decide), if_neg (by decide), if_pos (by decide), show (43 : Int32) = nI 43 from rfl, e1, bd_s]
    · simp only [oz, mkN] at hwd hdp
      simp at hwd
      obtain ⟨c', e1, s1⟩ := w_choice hT hM ih ht c10 (by omega) (by omega) c11 (by omega) (by omega) c12 (by omega) (by omega) hc hL (by omega)
      refine ⟨c', ?_, by rw [txE_6 c6 c10 (by omega) c11 (by omega) c12 (by omega)]; exact s1⟩
      rw [if_neg (by decide), if_neg (by decide), if_neg (by decide), if_neg (by decide), if_neg (by decide), if_neg (by decide), if_pos (by decide), e1, bd_s]
