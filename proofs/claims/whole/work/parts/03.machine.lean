abbrev jH : Type := Nat → va_E
def jv (ad : Nat → Nat) (v : Value) : Value := match v with
  | .ref k => .ref (ad k)
  | w => w
def jc (G : Nat → ClassId) (ad : Nat → Nat) (c : va_E) : va_E := match c with
  | .inl a => .inl (G a.1, a.2)
  | .inr o => .inr (o.1, o.2.map (jv ad))
def jW (G : Nat → ClassId) (ad : Nat → Nat) (n : Nat) (h : jH) : va_W := (List.range n).map (fun i => (ad i, jc G ad (h i)))
def jty (G : Nat → ClassId) : List (ClassId × FieldType) := [(G 0, .int), (G 1, .byte)]
def jokv (n : Nat) (v : Value) : Prop := match v with
  | .ref k => k < n
  | _ => True
def jokl (n : Nat) : List Value → Prop
  | [] => True
  | v :: r => jokv n v ∧ jokl n r
def jokc (n : Nat) (c : va_E) : Prop := match c with
  | .inl _ => True
  | .inr o => jokl n o.2
def jokh (n : Nat) (h : jH) : Prop := ∀ i, i < n → jokc n (h i)
theorem jv_cat (ad : Nat → Nat) (v : Value) : (jv ad v).category = v.category := by cases v <;> rfl
theorem jv_sum (ad : Nat → Nat) (st : List Value) : ((st.map (jv ad)).map fun v => v.category) = st.map fun v => v.category := by
  rw [List.map_map]
  exact List.map_congr_left (fun v _ => jv_cat ad v)
theorem jv_ext {ad ad' : Nat → Nat} {n : Nat} (h : ∀ i, i < n → ad' i = ad i) {v : Value} (hv : jokv n v) : jv ad' v = jv ad v := by
  cases v with
  | ref k => exact congrArg Value.ref (h k hv)
  | _ => rfl
theorem jl_ext {ad ad' : Nat → Nat} {n : Nat} (h : ∀ i, i < n → ad' i = ad i) : ∀ {l : List Value}, jokl n l → l.map (jv ad') = l.map (jv ad)
  | [], _ => rfl
  | v :: r, hl => by rw [List.map_cons, List.map_cons, jv_ext h hl.1, jl_ext h hl.2]
theorem jc_ext {G : Nat → ClassId} {ad ad' : Nat → Nat} {n : Nat} (h : ∀ i, i < n → ad' i = ad i) {c : va_E} (hc : jokc n c) : jc G ad' c = jc G ad c := by
  cases c with
  | inl a => rfl
  | inr o =>
    show Sum.inr (o.1, o.2.map (jv ad')) = Sum.inr (o.1, o.2.map (jv ad))
    rw [jl_ext h hc]
theorem jokv_mono {n n' : Nat} (h : n ≤ n') {v : Value} (hv : jokv n v) : jokv n' v := by
  cases v with
  | ref k => exact Nat.lt_of_lt_of_le hv h
  | _ => exact trivial
theorem jokl_mono {n n' : Nat} (h : n ≤ n') : ∀ {l : List Value}, jokl n l → jokl n' l
  | [], _ => trivial
  | _ :: _, hl => ⟨jokv_mono h hl.1, jokl_mono h hl.2⟩
theorem jokc_mono {n n' : Nat} (h : n ≤ n') {c : va_E} (hc : jokc n c) : jokc n' c := by
  cases c with
  | inl a => exact trivial
  | inr o => exact jokl_mono h hc
theorem jokl_get {n : Nat} : ∀ {l : List Value} {k : Nat} {v : Value}, jokl n l → l[k]? = some v → jokv n v
  | [], k, v, _, h => by simp at h
  | w :: r, 0, v, hl, h => by
    have : w = v := by simpa using h
    exact this ▸ hl.1
  | w :: r, k + 1, v, hl, h => jokl_get (l := r) (k := k) hl.2 (by simpa using h)
theorem jokl_set {n : Nat} : ∀ {l : List Value} {k : Nat} {v : Value}, jokl n l → jokv n v → jokl n (l.set k v)
  | [], _, _, _, _ => trivial
  | _ :: _, 0, _, hl, hv => ⟨hv, hl.2⟩
  | _ :: r, k + 1, _, hl, hv => ⟨hl.1, jokl_set (l := r) (k := k) hl.2 hv⟩
theorem jokl_app {n : Nat} : ∀ {a b : List Value}, jokl n a → jokl n b → jokl n (a ++ b)
  | [], _, _, hb => hb
  | _ :: r, _, ha, hb => ⟨ha.1, jokl_app (a := r) ha.2 hb⟩
theorem jokl_of_app {n : Nat} : ∀ {a b : List Value}, jokl n (a ++ b) → jokl n a ∧ jokl n b
  | [], _, h => ⟨trivial, h⟩
  | _ :: r, _, h => ⟨⟨h.1, (jokl_of_app (a := r) h.2).1⟩, (jokl_of_app (a := r) h.2).2⟩
theorem jokl_rev {n : Nat} : ∀ {a : List Value}, jokl n a → jokl n a.reverse
  | [], _ => trivial
  | v :: r, h => by rw [List.reverse_cons]; exact jokl_app (jokl_rev h.2) ⟨h.1, trivial⟩
theorem jW_at {G : Nat → ClassId} {ad : Nat → Nat} {n : Nat} {h : jH} {i : Nat} (hi : i < n) : (jW G ad n h)[i]? = some (ad i, jc G ad (h i)) := by
  unfold jW
  rw [List.getElem?_map, List.getElem?_range hi]
  rfl
theorem jW_len (G : Nat → ClassId) (ad : Nat → Nat) (n : Nat) (h : jH) : (jW G ad n h).length = n := by
  unfold jW
  rw [List.length_map, List.length_range]
theorem jW_set {G : Nat → ClassId} {ad : Nat → Nat} {n : Nat} {h : jH} {i : Nat} (c : va_E) : (jW G ad n h).set i (ad i, jc G ad c) = jW G ad n (va_up h i c) := by
  apply List.ext_getElem?
  intro j
  rw [List.getElem?_set]
  by_cases hj : j < n
  · rw [jW_at hj]
    by_cases hij : i = j
    · subst hij
      rw [if_pos rfl, if_pos (by rw [jW_len]; exact hj), jW_at hj]
      simp [va_up]
    · rw [if_neg hij, jW_at hj]
      simp [va_up, Ne.symm hij]
  · rw [List.getElem?_eq_none (by rw [jW_len]; omega)]
    by_cases hij : i = j
    · subst hij
      rw [if_pos rfl, if_neg (by rw [jW_len]; exact hj), List.getElem?_eq_none (by rw [jW_len]; omega)]
    · rw [if_neg hij, List.getElem?_eq_none (by rw [jW_len]; omega)]
theorem jW_push {G : Nat → ClassId} {ad : Nat → Nat} {n q : Nat} {h : jH} {c : va_E} (hh : jokh n h) (hc : jokc n c) : jW G ad n h ++ [(q, jc G ad c)] = jW G (va_up ad n q) (n + 1) (va_up h n c) := by
  have he : ∀ i, i < n → va_up ad n q i = ad i := fun i hi => by simp [va_up, Nat.ne_of_lt hi]
  unfold jW
  rw [List.range_succ, List.map_append]
  congr 1
  · refine List.map_congr_left (fun i hi => ?_)
    have hi : i < n := List.mem_range.mp hi
    rw [he i hi, show va_up h n c i = h i by simp [va_up, Nat.ne_of_lt hi], jc_ext he (hh i hi)]
  · simp [va_up, jc_ext he hc]
def jg : List (Nat × Value) → Nat → Option Value
  | [], _ => none
  | q :: r, i => if q.1 = i then some q.2 else jg r i
def jst (lv : List (Nat × Value)) (i : Nat) (v : Value) : List (Nat × Value) := (i, v) :: lv.filter (fun q => !(q.1 == i) && !(q.1 + 1 == i && q.2.category == 2))
def jst2 (lv : List (Nat × Value)) (i : Nat) (v : Value) : List (Nat × Value) := (i, v) :: lv.filter (fun q => !(q.1 == i) && (!(q.1 == i + 1) && !(q.1 + 1 == i && q.2.category == 2)))
def jm (ad : Nat → Nat) (lv : List (Nat × Value)) : List (Nat × Value) := lv.map (fun q => (q.1, jv ad q.2))
def jokm (n : Nat) (lv : List (Nat × Value)) : Prop := ∀ q ∈ lv, jokv n q.2
theorem jg_mem : ∀ {lv : List (Nat × Value)} {i : Nat} {v : Value}, jg lv i = some v → (i, v) ∈ lv
  | [], _, _, h => by simp [jg] at h
  | q :: r, i, v, h => by
    unfold jg at h
    by_cases hq : q.1 = i
    · rw [if_pos hq] at h
      have : q = (i, v) := by rw [← hq, ← Option.some.inj h]
      rw [this]; exact List.mem_cons_self
    · rw [if_neg hq] at h
      exact List.mem_cons_of_mem _ (jg_mem h)
theorem jg_at {lv rw : List (Nat × Value)} {i nL : Nat} {v : Value} {ls : Array Slot} {ad : Nat → Nat} (h : lv_has ls nL (rw ++ jm ad lv)) (hg : jg lv i = some v) : ls[i]? = some (.val (jv ad v)) :=
  h.2.2 (i, jv ad v) (List.mem_append_right _ (List.mem_map.mpr ⟨(i, v), jg_mem hg, rfl⟩))
theorem jm_st (ad : Nat → Nat) (lv : List (Nat × Value)) (i : Nat) (v : Value) : jm ad (jst lv i v) = (i, jv ad v) :: (jm ad lv).filter (fun q => !(q.1 == i) && !(q.1 + 1 == i && q.2.category == 2)) := by
  unfold jm jst
  rw [List.map_cons, List.filter_map]
  congr 2
  refine List.filter_congr (fun q _ => ?_)
  simp [jv_cat]
theorem jm_st2 (ad : Nat → Nat) (lv : List (Nat × Value)) (i : Nat) (v : Value) : jm ad (jst2 lv i v) = (i, jv ad v) :: (jm ad lv).filter (fun q => !(q.1 == i) && (!(q.1 == i + 1) && !(q.1 + 1 == i && q.2.category == 2))) := by
  unfold jm jst2
  rw [List.map_cons, List.filter_map]
  congr 2
  refine List.filter_congr (fun q _ => ?_)
  simp [jv_cat]
def jRw (rw : List (Nat × Value)) : Prop := ∀ q ∈ rw, q.1 = 0 ∧ q.2.category = 1
theorem j_stH {ls : Array Slot} {nL i : Nat} {lv rw : List (Nat × Value)} {v : Value} {ad : Nat → Nat} (hr : jRw rw) (hz : i ≠ 0) (h : lv_has ls nL ((i, jv ad v) :: (rw ++ jm ad lv).filter (fun q => !(q.1 == i) && !(q.1 + 1 == i && q.2.category == 2)))) : lv_has ls nL (rw ++ jm ad (jst lv i v)) := by
  refine ⟨h.1, h.2.1, fun q hq => h.2.2 q ?_⟩
  rw [List.filter_append]
  rcases List.mem_append.mp hq with hq | hq
  · refine List.mem_cons_of_mem _ (List.mem_append_left _ (List.mem_filter.mpr ⟨hq, ?_⟩))
    have h0 := hr q hq
    rw [h0.1, h0.2]
    simp
    omega
  · rw [jm_st] at hq
    rcases List.mem_cons.mp hq with hq | hq
    · rw [hq]; exact List.mem_cons_self
    · exact List.mem_cons_of_mem _ (List.mem_append_right _ hq)
theorem j_stH2 {ls : Array Slot} {nL i : Nat} {lv rw : List (Nat × Value)} {v : Value} {ad : Nat → Nat} (hr : jRw rw) (hz : i ≠ 0) (h : lv_has ls nL ((i, jv ad v) :: (rw ++ jm ad lv).filter (fun q => !(q.1 == i) && (!(q.1 == i + 1) && !(q.1 + 1 == i && q.2.category == 2))))) : lv_has ls nL (rw ++ jm ad (jst2 lv i v)) := by
  refine ⟨h.1, h.2.1, fun q hq => h.2.2 q ?_⟩
  rw [List.filter_append]
  rcases List.mem_append.mp hq with hq | hq
  · refine List.mem_cons_of_mem _ (List.mem_append_left _ (List.mem_filter.mpr ⟨hq, ?_⟩))
    have h0 := hr q hq
    rw [h0.1, h0.2]
    simp
    omega
  · rw [jm_st2] at hq
    rcases List.mem_cons.mp hq with hq | hq
    · rw [hq]; exact List.mem_cons_self
    · exact List.mem_cons_of_mem _ (List.mem_append_right _ hq)
theorem jokm_st {n i : Nat} {lv : List (Nat × Value)} {v : Value} (h : jokm n lv) (hv : jokv n v) : jokm n (jst lv i v) := by
  intro q hq
  rcases List.mem_cons.mp hq with rfl | hq
  · exact hv
  · exact h q (List.mem_filter.mp hq).1
theorem jokm_st2 {n i : Nat} {lv : List (Nat × Value)} {v : Value} (h : jokm n lv) (hv : jokv n v) : jokm n (jst2 lv i v) := by
  intro q hq
  rcases List.mem_cons.mp hq with rfl | hq
  · exact hv
  · exact h q (List.mem_filter.mp hq).1
theorem jm_ext {ad ad' : Nat → Nat} {n : Nat} (h : ∀ i, i < n → ad' i = ad i) {lv : List (Nat × Value)} (hl : jokm n lv) : jm ad' lv = jm ad lv := by
  unfold jm
  refine List.map_congr_left (fun q hq => ?_)
  rw [jv_ext h (hl q hq)]
abbrev jX : Type := (Program × Launch × Env × Room × State) × (MethodId × Array Value × List Frame × Method × Code) × ((State → Prop) × (Nat → Prop) × va_G × (Nat → ClassId)) × (Nat × (Nat → Nat) × List (Nat × Value))
abbrev jX.p (X : jX) : Program := X.1.1
abbrev jX.l (X : jX) : Launch := X.1.2.1
abbrev jX.e (X : jX) : Env := X.1.2.2.1
abbrev jX.R (X : jX) : Room := X.1.2.2.2.1
abbrev jX.s (X : jX) : State := X.1.2.2.2.2
abbrev jX.m (X : jX) : MethodId := X.2.1.1
abbrev jX.args (X : jX) : Array Value := X.2.1.2.1
abbrev jX.below (X : jX) : List Frame := X.2.1.2.2.1
abbrev jX.meth (X : jX) : Method := X.2.1.2.2.2.1
abbrev jX.c (X : jX) : Code := X.2.1.2.2.2.2
abbrev jX.Q (X : jX) : State → Prop := X.2.2.1.1
abbrev jX.A (X : jX) : Nat → Prop := X.2.2.1.2.1
abbrev jX.D (X : jX) : va_G := X.2.2.1.2.2.1
abbrev jX.G (X : jX) : Nat → ClassId := X.2.2.1.2.2.2
abbrev jX.n0 (X : jX) : Nat := X.2.2.2.1
abbrev jX.ad0 (X : jX) : Nat → Nat := X.2.2.2.2.1
abbrev jX.raw (X : jX) : List (Nat × Value) := X.2.2.2.2.2
def jPre (X : jX) (n : Nat) (h : jH) (lv : List (Nat × Value)) (st : List Value) (ad : Nat → Nat) (H : Heap) (locs : List Loc) (ls : Array Slot) : Prop :=
  ((∀ i, i < X.n0 → ad i = X.ad0 i) ∧ X.n0 ≤ n) ∧ (va_P X.D vwCl (jW X.G ad n h) H ∧ va_D X.A (jW X.G ad n h) ∧ va_S X.A X.s.heap H locs) ∧ lv_has ls X.c.maxLocals (X.raw ++ jm ad lv) ∧ jokl n st ∧ jokm n lv ∧ jokh n h
def jGo (X : jX) (cells slots : Nat) (H : Heap) (locs : List Loc) (g : JFrame) : Prop := W X.p X.l X.e X.R X.s X.m X.args X.below X.meth X.c H locs cells slots X.Q g
def J (X : jX) (cells slots n : Nat) (h : jH) (lv : List (Nat × Value)) (st : List Value) (pc : Nat) : Prop :=
  ∀ (ad : Nat → Nat) (H : Heap) (locs : List Loc) (ls : Array Slot), jPre X n h lv st ad H locs ls → jGo X cells slots H locs (F0 X.m pc ls (st.map (jv ad)))
def jNk (U : State) : Prop := ∀ q ∈ jNs, va_Nw (.methodLinkNest q.1 q.2.1 q.2.2.1 q.2.2.2) U
theorem jNk.warm {s U : State} (hW : s.WarmedH U.vm) (h : jNk s) : jNk U := fun q hq => va_Nw.warmM hW (h q hq)
def jOk (X : jX) (own : String) (cc : ByteArray) (nL d : Nat) : Prop :=
  X.p.tables.exec = Jvm.exec ∧ X.c.code = cc ∧ X.c.maxLocals = nL ∧ X.s.vm.findClass own = some X.m.cls ∧ (∀ w ∈ jTb, w.before X.args X.s = true) ∧ va_K X.D vwCl (jty X.G) X.s ∧ (∀ q, X.s.heap.size ≤ q → X.A q) ∧ d ≤ X.R.frames ∧ 64 * d ≤ X.R.locals ∧ jNk X.s ∧ jRw X.raw
section JR
variable {X : jX} {own : String} {cc : ByteArray} {nL d cells slots n : Nat} {h : jH} {lv : List (Nat × Value)} {st : List Value} {pc : Nat}
theorem j_lift {st' : List Value} {pc' : Nat} (k : J X cells slots n h lv st' pc') (hs : jokm n lv → jokh n h → jokl n st → jokl n st') (hw : ∀ (ad : Nat → Nat) (H : Heap) (locs : List Loc) (ls : Array Slot), jPre X n h lv st ad H locs ls → jGo X cells slots H locs (F0 X.m pc' ls (st'.map (jv ad))) → jGo X cells slots H locs (F0 X.m pc ls (st.map (jv ad)))) : J X cells slots n h lv st pc :=
  fun ad H locs ls q => hw ad H locs ls q (k ad H locs ls ⟨q.1, q.2.1, q.2.2.1, hs q.2.2.2.2.1 q.2.2.2.2.2 q.2.2.2.1, q.2.2.2.2⟩)
theorem j_iconst {a : Int} {v : Int32} (hX : jOk X own cc nL d) (hd : decode cc pc = .ok (.iconst a, 1)) (hv : Int32.ofInt a = v) (k : J X cells slots n h lv (.int v :: st) (pc + 1)) : J X cells slots n h lv (st) pc :=
  j_lift k (fun _ _ q => ⟨trivial, q⟩) (fun ad H locs ls q w => lv_iconst hX.1 hX.2.1 hd hv w)
theorem j_bipush {a : Int} {v : Int32} (hX : jOk X own cc nL d) (hd : decode cc pc = .ok (.bipush a, 2)) (hv : (Int8.ofInt a).toInt32 = v) (k : J X cells slots n h lv (.int v :: st) (pc + 2)) : J X cells slots n h lv (st) pc :=
  j_lift k (fun _ _ q => ⟨trivial, q⟩) (fun ad H locs ls q w => lv_bipush hX.1 hX.2.1 hd hv w)
theorem j_sipush {a : Int} {v : Int32} (hX : jOk X own cc nL d) (hd : decode cc pc = .ok (.sipush a, 3)) (hv : (Int16.ofInt a).toInt32 = v) (k : J X cells slots n h lv (.int v :: st) (pc + 3)) : J X cells slots n h lv (st) pc :=
  j_lift k (fun _ _ q => ⟨trivial, q⟩) (fun ad H locs ls q w => lv_sipush hX.1 hX.2.1 hd hv w)
theorem j_lconst {a : Fin 2} {v : Int64} (hX : jOk X own cc nL d) (hd : decode cc pc = .ok (.lconst a, 1)) (hv : Int64.ofNat (a : Nat) = v) (k : J X cells slots n h lv (.long v :: st) (pc + 1)) : J X cells slots n h lv (st) pc :=
  j_lift k (fun _ _ q => ⟨trivial, q⟩) (fun ad H locs ls q w => lv_lconst hX.1 hX.2.1 hd hv w)
theorem j_ldc {i : Nat} {v : Int32} (hX : jOk X own cc nL d) (hd : decode cc pc = .ok (.ldc i, 2)) (hw : Cond.constant own i v ∈ jTb) (k : J X cells slots n h lv (.int v :: st) (pc + 2)) : J X cells slots n h lv (st) pc :=
  j_lift k (fun _ _ q => ⟨trivial, q⟩) (fun ad H locs ls q w => lv_ldc hX.1 hX.2.1 hX.2.2.2.1 (hX.2.2.2.2.1 _ hw) hd w)
theorem j_ldc2 {i : Nat} {v : Int64} (hX : jOk X own cc nL d) (hd : decode cc pc = .ok (.ldc2_w i, 3)) (hw : Cond.constantLong own i v ∈ jTb) (k : J X cells slots n h lv (.long v :: st) (pc + 3)) : J X cells slots n h lv (st) pc :=
  j_lift k (fun _ _ q => ⟨trivial, q⟩) (fun ad H locs ls q w => lv_ldc2 hX.1 hX.2.1 hX.2.2.2.1 (hX.2.2.2.2.1 _ hw) hd w)
theorem j_iload_n {i : Fin 4} {j : Nat} {x : Int32} (hX : jOk X own cc nL d) (hd : decode cc pc = .ok (.iload_n i, 1)) (hi : (i : Nat) = j) (hg : jg lv j = some (.int x)) (k : J X cells slots n h lv (.int x :: st) (pc + 1)) : J X cells slots n h lv (st) pc :=
  j_lift k (fun _ _ q => ⟨trivial, q⟩) (fun ad H locs ls q w => lv_iload_n hX.1 hX.2.1 hd hi (jg_at q.2.2.1 hg) w)
theorem j_iload {i : Nat} {x : Int32} (hX : jOk X own cc nL d) (hd : decode cc pc = .ok (.iload i, 2)) (hg : jg lv i = some (.int x)) (k : J X cells slots n h lv (.int x :: st) (pc + 2)) : J X cells slots n h lv (st) pc :=
  j_lift k (fun _ _ q => ⟨trivial, q⟩) (fun ad H locs ls q w => lv_iload hX.1 hX.2.1 hd (jg_at q.2.2.1 hg) w)
theorem j_lload_n {i : Fin 4} {j : Nat} {x : Int64} (hX : jOk X own cc nL d) (hd : decode cc pc = .ok (.lload_n i, 1)) (hi : (i : Nat) = j) (hg : jg lv j = some (.long x)) (k : J X cells slots n h lv (.long x :: st) (pc + 1)) : J X cells slots n h lv (st) pc :=
  j_lift k (fun _ _ q => ⟨trivial, q⟩) (fun ad H locs ls q w => lv_lload_n hX.1 hX.2.1 hd hi (jg_at q.2.2.1 hg) w)
theorem j_lload {i : Nat} {x : Int64} (hX : jOk X own cc nL d) (hd : decode cc pc = .ok (.lload i, 2)) (hg : jg lv i = some (.long x)) (k : J X cells slots n h lv (.long x :: st) (pc + 2)) : J X cells slots n h lv (st) pc :=
  j_lift k (fun _ _ q => ⟨trivial, q⟩) (fun ad H locs ls q w => lv_lload hX.1 hX.2.1 hd (jg_at q.2.2.1 hg) w)
theorem j_aload_n {i : Fin 4} {j x : Nat} (hX : jOk X own cc nL d) (hd : decode cc pc = .ok (.aload_n i, 1)) (hi : (i : Nat) = j) (hg : jg lv j = some (.ref x)) (k : J X cells slots n h lv (.ref x :: st) (pc + 1)) : J X cells slots n h lv (st) pc :=
  j_lift k (fun m _ q => ⟨m _ (jg_mem hg), q⟩) (fun ad H locs ls q w => lv_aload_n hX.1 hX.2.1 hd hi (jg_at q.2.2.1 hg) w)
theorem j_aload {i x : Nat} (hX : jOk X own cc nL d) (hd : decode cc pc = .ok (.aload i, 2)) (hg : jg lv i = some (.ref x)) (k : J X cells slots n h lv (.ref x :: st) (pc + 2)) : J X cells slots n h lv (st) pc :=
  j_lift k (fun m _ q => ⟨m _ (jg_mem hg), q⟩) (fun ad H locs ls q w => lv_aload hX.1 hX.2.1 hd (jg_at q.2.2.1 hg) w)
theorem j_iadd {x y : Int32} (hX : jOk X own cc nL d) (hd : decode cc pc = .ok (.iadd, 1)) (k : J X cells slots n h lv (.int (x + y) :: st) (pc + 1)) : J X cells slots n h lv (.int y :: .int x :: st) pc :=
  j_lift k (fun _ _ q => ⟨trivial, q.2.2⟩) (fun ad H locs ls q w => lv_iadd hX.1 hX.2.1 hd w)
theorem j_ladd {x y : Int64} (hX : jOk X own cc nL d) (hd : decode cc pc = .ok (.ladd, 1)) (k : J X cells slots n h lv (.long (x + y) :: st) (pc + 1)) : J X cells slots n h lv (.long y :: .long x :: st) pc :=
  j_lift k (fun _ _ q => ⟨trivial, q.2.2⟩) (fun ad H locs ls q w => lv_ladd hX.1 hX.2.1 hd w)
theorem j_isub {x y : Int32} (hX : jOk X own cc nL d) (hd : decode cc pc = .ok (.isub, 1)) (k : J X cells slots n h lv (.int (x - y) :: st) (pc + 1)) : J X cells slots n h lv (.int y :: .int x :: st) pc :=
  j_lift k (fun _ _ q => ⟨trivial, q.2.2⟩) (fun ad H locs ls q w => lv_isub hX.1 hX.2.1 hd w)
theorem j_lsub {x y : Int64} (hX : jOk X own cc nL d) (hd : decode cc pc = .ok (.lsub, 1)) (k : J X cells slots n h lv (.long (x - y) :: st) (pc + 1)) : J X cells slots n h lv (.long y :: .long x :: st) pc :=
  j_lift k (fun _ _ q => ⟨trivial, q.2.2⟩) (fun ad H locs ls q w => lv_lsub hX.1 hX.2.1 hd w)
theorem j_imul {x y : Int32} (hX : jOk X own cc nL d) (hd : decode cc pc = .ok (.imul, 1)) (k : J X cells slots n h lv (.int (x * y) :: st) (pc + 1)) : J X cells slots n h lv (.int y :: .int x :: st) pc :=
  j_lift k (fun _ _ q => ⟨trivial, q.2.2⟩) (fun ad H locs ls q w => lv_imul hX.1 hX.2.1 hd w)
theorem j_lmul {x y : Int64} (hX : jOk X own cc nL d) (hd : decode cc pc = .ok (.lmul, 1)) (k : J X cells slots n h lv (.long (x * y) :: st) (pc + 1)) : J X cells slots n h lv (.long y :: .long x :: st) pc :=
  j_lift k (fun _ _ q => ⟨trivial, q.2.2⟩) (fun ad H locs ls q w => lv_lmul hX.1 hX.2.1 hd w)
theorem j_iand {x y : Int32} (hX : jOk X own cc nL d) (hd : decode cc pc = .ok (.iand, 1)) (k : J X cells slots n h lv (.int (x &&& y) :: st) (pc + 1)) : J X cells slots n h lv (.int y :: .int x :: st) pc :=
  j_lift k (fun _ _ q => ⟨trivial, q.2.2⟩) (fun ad H locs ls q w => lv_iand hX.1 hX.2.1 hd w)
theorem j_land {x y : Int64} (hX : jOk X own cc nL d) (hd : decode cc pc = .ok (.land, 1)) (k : J X cells slots n h lv (.long (x &&& y) :: st) (pc + 1)) : J X cells slots n h lv (.long y :: .long x :: st) pc :=
  j_lift k (fun _ _ q => ⟨trivial, q.2.2⟩) (fun ad H locs ls q w => lv_land hX.1 hX.2.1 hd w)
theorem j_ior {x y : Int32} (hX : jOk X own cc nL d) (hd : decode cc pc = .ok (.ior, 1)) (k : J X cells slots n h lv (.int (x ||| y) :: st) (pc + 1)) : J X cells slots n h lv (.int y :: .int x :: st) pc :=
  j_lift k (fun _ _ q => ⟨trivial, q.2.2⟩) (fun ad H locs ls q w => lv_ior hX.1 hX.2.1 hd w)
theorem j_lor {x y : Int64} (hX : jOk X own cc nL d) (hd : decode cc pc = .ok (.lor, 1)) (k : J X cells slots n h lv (.long (x ||| y) :: st) (pc + 1)) : J X cells slots n h lv (.long y :: .long x :: st) pc :=
  j_lift k (fun _ _ q => ⟨trivial, q.2.2⟩) (fun ad H locs ls q w => lv_lor hX.1 hX.2.1 hd w)
theorem j_ixor {x y : Int32} (hX : jOk X own cc nL d) (hd : decode cc pc = .ok (.ixor, 1)) (k : J X cells slots n h lv (.int (x ^^^ y) :: st) (pc + 1)) : J X cells slots n h lv (.int y :: .int x :: st) pc :=
  j_lift k (fun _ _ q => ⟨trivial, q.2.2⟩) (fun ad H locs ls q w => lv_ixor hX.1 hX.2.1 hd w)
theorem j_lxor {x y : Int64} (hX : jOk X own cc nL d) (hd : decode cc pc = .ok (.lxor, 1)) (k : J X cells slots n h lv (.long (x ^^^ y) :: st) (pc + 1)) : J X cells slots n h lv (.long y :: .long x :: st) pc :=
  j_lift k (fun _ _ q => ⟨trivial, q.2.2⟩) (fun ad H locs ls q w => lv_lxor hX.1 hX.2.1 hd w)
theorem j_idiv {x y : Int32} (hX : jOk X own cc nL d) (hd : decode cc pc = .ok (.idiv, 1)) (hy : ¬ y = 0) (k : J X cells slots n h lv (.int (x / y) :: st) (pc + 1)) : J X cells slots n h lv (.int y :: .int x :: st) pc :=
  j_lift k (fun _ _ q => ⟨trivial, q.2.2⟩) (fun ad H locs ls q w => lv_idiv hX.1 hX.2.1 hd hy w)
theorem j_irem {x y : Int32} (hX : jOk X own cc nL d) (hd : decode cc pc = .ok (.irem, 1)) (hy : ¬ y = 0) (k : J X cells slots n h lv (.int (x - x / y * y) :: st) (pc + 1)) : J X cells slots n h lv (.int y :: .int x :: st) pc :=
  j_lift k (fun _ _ q => ⟨trivial, q.2.2⟩) (fun ad H locs ls q w => lv_irem hX.1 hX.2.1 hd hy w)
theorem j_ineg {x : Int32} (hX : jOk X own cc nL d) (hd : decode cc pc = .ok (.ineg, 1)) (k : J X cells slots n h lv (.int (-x) :: st) (pc + 1)) : J X cells slots n h lv (.int x :: st) pc :=
  j_lift k (fun _ _ q => ⟨trivial, q.2⟩) (fun ad H locs ls q w => lv_ineg hX.1 hX.2.1 hd w)
theorem j_ldiv {x y : Int64} (hX : jOk X own cc nL d) (hd : decode cc pc = .ok (.ldiv, 1)) (hy : ¬ y = 0) (k : J X cells slots n h lv (.long (x / y) :: st) (pc + 1)) : J X cells slots n h lv (.long y :: .long x :: st) pc :=
  j_lift k (fun _ _ q => ⟨trivial, q.2.2⟩) (fun ad H locs ls q w => lv_ldiv hX.1 hX.2.1 hd hy w)
theorem j_lrem {x y : Int64} (hX : jOk X own cc nL d) (hd : decode cc pc = .ok (.lrem, 1)) (hy : ¬ y = 0) (k : J X cells slots n h lv (.long (x - x / y * y) :: st) (pc + 1)) : J X cells slots n h lv (.long y :: .long x :: st) pc :=
  j_lift k (fun _ _ q => ⟨trivial, q.2.2⟩) (fun ad H locs ls q w => lv_lrem hX.1 hX.2.1 hd hy w)
theorem j_lneg {x : Int64} (hX : jOk X own cc nL d) (hd : decode cc pc = .ok (.lneg, 1)) (k : J X cells slots n h lv (.long (-x) :: st) (pc + 1)) : J X cells slots n h lv (.long x :: st) pc :=
  j_lift k (fun _ _ q => ⟨trivial, q.2⟩) (fun ad H locs ls q w => lv_lneg hX.1 hX.2.1 hd w)
theorem j_ishl {x y : Int32} (hX : jOk X own cc nL d) (hd : decode cc pc = .ok (.ishl, 1)) (k : J X cells slots n h lv (.int (x <<< (y &&& 31)) :: st) (pc + 1)) : J X cells slots n h lv (.int y :: .int x :: st) pc :=
  j_lift k (fun _ _ q => ⟨trivial, q.2.2⟩) (fun ad H locs ls q w => lv_ishl hX.1 hX.2.1 hd w)
theorem j_ishr {x y : Int32} (hX : jOk X own cc nL d) (hd : decode cc pc = .ok (.ishr, 1)) (k : J X cells slots n h lv (.int (x >>> (y &&& 31)) :: st) (pc + 1)) : J X cells slots n h lv (.int y :: .int x :: st) pc :=
  j_lift k (fun _ _ q => ⟨trivial, q.2.2⟩) (fun ad H locs ls q w => lv_ishr hX.1 hX.2.1 hd w)
theorem j_iushr {x y : Int32} (hX : jOk X own cc nL d) (hd : decode cc pc = .ok (.iushr, 1)) (k : J X cells slots n h lv (.int (x.toUInt32 >>> (y.toUInt32 &&& Int32.toUInt32 31)).toInt32 :: st) (pc + 1)) : J X cells slots n h lv (.int y :: .int x :: st) pc :=
  j_lift k (fun _ _ q => ⟨trivial, q.2.2⟩) (fun ad H locs ls q w => lv_iushr hX.1 hX.2.1 hd rfl w)
theorem j_lushr {x : Int64} {y : Int32} (hX : jOk X own cc nL d) (hd : decode cc pc = .ok (.lushr, 1)) (k : J X cells slots n h lv (.long (x.toUInt64 >>> (y.toInt64.toUInt64 &&& Int64.toUInt64 63)).toInt64 :: st) (pc + 1)) : J X cells slots n h lv (.int y :: .long x :: st) pc :=
  j_lift k (fun _ _ q => ⟨trivial, q.2.2⟩) (fun ad H locs ls q w => lv_lushr hX.1 hX.2.1 hd rfl w)
theorem j_lshl {x : Int64} {y : Int32} (hX : jOk X own cc nL d) (hd : decode cc pc = .ok (.lshl, 1)) (k : J X cells slots n h lv (.long (x <<< (y.toInt64 &&& 63)) :: st) (pc + 1)) : J X cells slots n h lv (.int y :: .long x :: st) pc :=
  j_lift k (fun _ _ q => ⟨trivial, q.2.2⟩) (fun ad H locs ls q w => lv_lshl hX.1 hX.2.1 hd rfl w)
theorem j_lshr {x : Int64} {y : Int32} (hX : jOk X own cc nL d) (hd : decode cc pc = .ok (.lshr, 1)) (k : J X cells slots n h lv (.long (x >>> (y.toInt64 &&& 63)) :: st) (pc + 1)) : J X cells slots n h lv (.int y :: .long x :: st) pc :=
  j_lift k (fun _ _ q => ⟨trivial, q.2.2⟩) (fun ad H locs ls q w => lv_lshr hX.1 hX.2.1 hd rfl w)
theorem j_i2l {x : Int32} (hX : jOk X own cc nL d) (hd : decode cc pc = .ok (.i2l, 1)) (k : J X cells slots n h lv (.long x.toInt64 :: st) (pc + 1)) : J X cells slots n h lv (.int x :: st) pc :=
  j_lift k (fun _ _ q => ⟨trivial, q.2⟩) (fun ad H locs ls q w => lv_i2l hX.1 hX.2.1 hd rfl w)
theorem j_l2i {x : Int64} (hX : jOk X own cc nL d) (hd : decode cc pc = .ok (.l2i, 1)) (k : J X cells slots n h lv (.int x.toInt32 :: st) (pc + 1)) : J X cells slots n h lv (.long x :: st) pc :=
  j_lift k (fun _ _ q => ⟨trivial, q.2⟩) (fun ad H locs ls q w => lv_l2i hX.1 hX.2.1 hd rfl w)
theorem j_i2b {x : Int32} (hX : jOk X own cc nL d) (hd : decode cc pc = .ok (.i2b, 1)) (k : J X cells slots n h lv (.int x.toInt8.toInt32 :: st) (pc + 1)) : J X cells slots n h lv (.int x :: st) pc :=
  j_lift k (fun _ _ q => ⟨trivial, q.2⟩) (fun ad H locs ls q w => lv_i2b hX.1 hX.2.1 hd rfl w)
theorem j_i2s {x : Int32} (hX : jOk X own cc nL d) (hd : decode cc pc = .ok (.i2s, 1)) (k : J X cells slots n h lv (.int x.toInt16.toInt32 :: st) (pc + 1)) : J X cells slots n h lv (.int x :: st) pc :=
  j_lift k (fun _ _ q => ⟨trivial, q.2⟩) (fun ad H locs ls q w => lv_i2s hX.1 hX.2.1 hd rfl w)
theorem j_i2c {x : Int32} (hX : jOk X own cc nL d) (hd : decode cc pc = .ok (.i2c, 1)) (k : J X cells slots n h lv (.int (x.toUInt32 % 65536).toInt32 :: st) (pc + 1)) : J X cells slots n h lv (.int x :: st) pc :=
  j_lift k (fun _ _ q => ⟨trivial, q.2⟩) (fun ad H locs ls q w => lv_i2c hX.1 hX.2.1 hd rfl w)
theorem j_lcmp {x y : Int64} (hX : jOk X own cc nL d) (hd : decode cc pc = .ok (.lcmp, 1)) (k : J X cells slots n h lv (.int (lg_cmp x y) :: st) (pc + 1)) : J X cells slots n h lv (.long y :: .long x :: st) pc :=
  j_lift k (fun _ _ q => ⟨trivial, q.2.2⟩) (fun ad H locs ls q w => W.lcmp hX.1 hX.2.1 hd w)
theorem j_dup {v : Value} (hX : jOk X own cc nL d) (hd : decode cc pc = .ok (.dup, 1)) (hv : v.category = 1) (k : J X cells slots n h lv (v :: v :: st) (pc + 1)) : J X cells slots n h lv (v :: st) pc :=
  j_lift k (fun _ _ q => ⟨q.1, q⟩) (fun ad H locs ls q w => lv_dup hX.1 hX.2.1 hd ((jv_cat ad v).trans hv) w)
theorem j_dup2 {v w : Value} (hX : jOk X own cc nL d) (hd : decode cc pc = .ok (.dup2, 1)) (hv : v.category = 1) (hw : w.category = 1) (k : J X cells slots n h lv (v :: w :: v :: w :: st) (pc + 1)) : J X cells slots n h lv (v :: w :: st) pc :=
  j_lift k (fun _ _ q => ⟨q.1, q.2.1, q⟩) (fun ad H locs ls q w0 => lv_dup2_11 hX.1 hX.2.1 hd ((jv_cat ad v).trans hv) ((jv_cat ad w).trans hw) w0)
theorem j_pop {v : Value} (hX : jOk X own cc nL d) (hd : decode cc pc = .ok (.pop, 1)) (hv : v.category = 1) (k : J X cells slots n h lv st (pc + 1)) : J X cells slots n h lv (v :: st) pc :=
  j_lift k (fun _ _ q => q.2) (fun ad H locs ls q w => lv_pop hX.1 hX.2.1 hd ((jv_cat ad v).trans hv) w)
theorem j_icmp_eq {x y : Int32} {off : Int} {tgt : Nat} (hX : jOk X own cc nL d) (hd : decode cc pc = .ok (.if_icmp .eq off, 3)) (ht : (pc : Int) + off = (tgt : Int)) (kt : x = y → J X cells slots n h lv st tgt) (kf : ¬ x = y → J X cells slots n h lv st (pc + 3)) : J X cells slots n h lv (.int y :: .int x :: st) pc :=
  fun ad H locs ls q0 => lv_icmp_eq hX.1 hX.2.1 hd ht (fun z => kt z ad H locs ls ⟨q0.1, q0.2.1, q0.2.2.1, (fun q => q.2.2) q0.2.2.2.1, q0.2.2.2.2⟩) (fun z => kf z ad H locs ls ⟨q0.1, q0.2.1, q0.2.2.1, (fun q => q.2.2) q0.2.2.2.1, q0.2.2.2.2⟩)
theorem j_if_eq {x : Int32} {off : Int} {tgt : Nat} (hX : jOk X own cc nL d) (hd : decode cc pc = .ok (.ifCond .eq off, 3)) (ht : (pc : Int) + off = (tgt : Int)) (kt : x = 0 → J X cells slots n h lv st tgt) (kf : ¬ x = 0 → J X cells slots n h lv st (pc + 3)) : J X cells slots n h lv (.int x :: st) pc :=
  fun ad H locs ls q0 => lv_if_eq hX.1 hX.2.1 hd ht (fun z => kt z ad H locs ls ⟨q0.1, q0.2.1, q0.2.2.1, (fun q => q.2) q0.2.2.2.1, q0.2.2.2.2⟩) (fun z => kf z ad H locs ls ⟨q0.1, q0.2.1, q0.2.2.1, (fun q => q.2) q0.2.2.2.1, q0.2.2.2.2⟩)
theorem j_icmp_ne {x y : Int32} {off : Int} {tgt : Nat} (hX : jOk X own cc nL d) (hd : decode cc pc = .ok (.if_icmp .ne off, 3)) (ht : (pc : Int) + off = (tgt : Int)) (kt : ¬ x = y → J X cells slots n h lv st tgt) (kf : x = y → J X cells slots n h lv st (pc + 3)) : J X cells slots n h lv (.int y :: .int x :: st) pc :=
  fun ad H locs ls q0 => lv_icmp_ne hX.1 hX.2.1 hd ht (fun z => kt z ad H locs ls ⟨q0.1, q0.2.1, q0.2.2.1, (fun q => q.2.2) q0.2.2.2.1, q0.2.2.2.2⟩) (fun z => kf z ad H locs ls ⟨q0.1, q0.2.1, q0.2.2.1, (fun q => q.2.2) q0.2.2.2.1, q0.2.2.2.2⟩)
theorem j_if_ne {x : Int32} {off : Int} {tgt : Nat} (hX : jOk X own cc nL d) (hd : decode cc pc = .ok (.ifCond .ne off, 3)) (ht : (pc : Int) + off = (tgt : Int)) (kt : ¬ x = 0 → J X cells slots n h lv st tgt) (kf : x = 0 → J X cells slots n h lv st (pc + 3)) : J X cells slots n h lv (.int x :: st) pc :=
  fun ad H locs ls q0 => lv_if_ne hX.1 hX.2.1 hd ht (fun z => kt z ad H locs ls ⟨q0.1, q0.2.1, q0.2.2.1, (fun q => q.2) q0.2.2.2.1, q0.2.2.2.2⟩) (fun z => kf z ad H locs ls ⟨q0.1, q0.2.1, q0.2.2.1, (fun q => q.2) q0.2.2.2.1, q0.2.2.2.2⟩)
theorem j_icmp_lt {x y : Int32} {off : Int} {tgt : Nat} (hX : jOk X own cc nL d) (hd : decode cc pc = .ok (.if_icmp .lt off, 3)) (ht : (pc : Int) + off = (tgt : Int)) (kt : x < y → J X cells slots n h lv st tgt) (kf : ¬ x < y → J X cells slots n h lv st (pc + 3)) : J X cells slots n h lv (.int y :: .int x :: st) pc :=
  fun ad H locs ls q0 => lv_icmp_lt hX.1 hX.2.1 hd ht (fun z => kt z ad H locs ls ⟨q0.1, q0.2.1, q0.2.2.1, (fun q => q.2.2) q0.2.2.2.1, q0.2.2.2.2⟩) (fun z => kf z ad H locs ls ⟨q0.1, q0.2.1, q0.2.2.1, (fun q => q.2.2) q0.2.2.2.1, q0.2.2.2.2⟩)
theorem j_if_lt {x : Int32} {off : Int} {tgt : Nat} (hX : jOk X own cc nL d) (hd : decode cc pc = .ok (.ifCond .lt off, 3)) (ht : (pc : Int) + off = (tgt : Int)) (kt : x < 0 → J X cells slots n h lv st tgt) (kf : ¬ x < 0 → J X cells slots n h lv st (pc + 3)) : J X cells slots n h lv (.int x :: st) pc :=
  fun ad H locs ls q0 => lv_if_lt hX.1 hX.2.1 hd ht (fun z => kt z ad H locs ls ⟨q0.1, q0.2.1, q0.2.2.1, (fun q => q.2) q0.2.2.2.1, q0.2.2.2.2⟩) (fun z => kf z ad H locs ls ⟨q0.1, q0.2.1, q0.2.2.1, (fun q => q.2) q0.2.2.2.1, q0.2.2.2.2⟩)
theorem j_icmp_ge {x y : Int32} {off : Int} {tgt : Nat} (hX : jOk X own cc nL d) (hd : decode cc pc = .ok (.if_icmp .ge off, 3)) (ht : (pc : Int) + off = (tgt : Int)) (kt : y ≤ x → J X cells slots n h lv st tgt) (kf : ¬ y ≤ x → J X cells slots n h lv st (pc + 3)) : J X cells slots n h lv (.int y :: .int x :: st) pc :=
  fun ad H locs ls q0 => lv_icmp_ge hX.1 hX.2.1 hd ht (fun z => kt z ad H locs ls ⟨q0.1, q0.2.1, q0.2.2.1, (fun q => q.2.2) q0.2.2.2.1, q0.2.2.2.2⟩) (fun z => kf z ad H locs ls ⟨q0.1, q0.2.1, q0.2.2.1, (fun q => q.2.2) q0.2.2.2.1, q0.2.2.2.2⟩)
theorem j_if_ge {x : Int32} {off : Int} {tgt : Nat} (hX : jOk X own cc nL d) (hd : decode cc pc = .ok (.ifCond .ge off, 3)) (ht : (pc : Int) + off = (tgt : Int)) (kt : 0 ≤ x → J X cells slots n h lv st tgt) (kf : ¬ 0 ≤ x → J X cells slots n h lv st (pc + 3)) : J X cells slots n h lv (.int x :: st) pc :=
  fun ad H locs ls q0 => lv_if_ge hX.1 hX.2.1 hd ht (fun z => kt z ad H locs ls ⟨q0.1, q0.2.1, q0.2.2.1, (fun q => q.2) q0.2.2.2.1, q0.2.2.2.2⟩) (fun z => kf z ad H locs ls ⟨q0.1, q0.2.1, q0.2.2.1, (fun q => q.2) q0.2.2.2.1, q0.2.2.2.2⟩)
theorem j_icmp_gt {x y : Int32} {off : Int} {tgt : Nat} (hX : jOk X own cc nL d) (hd : decode cc pc = .ok (.if_icmp .gt off, 3)) (ht : (pc : Int) + off = (tgt : Int)) (kt : y < x → J X cells slots n h lv st tgt) (kf : ¬ y < x → J X cells slots n h lv st (pc + 3)) : J X cells slots n h lv (.int y :: .int x :: st) pc :=
  fun ad H locs ls q0 => lv_icmp_gt hX.1 hX.2.1 hd ht (fun z => kt z ad H locs ls ⟨q0.1, q0.2.1, q0.2.2.1, (fun q => q.2.2) q0.2.2.2.1, q0.2.2.2.2⟩) (fun z => kf z ad H locs ls ⟨q0.1, q0.2.1, q0.2.2.1, (fun q => q.2.2) q0.2.2.2.1, q0.2.2.2.2⟩)
theorem j_if_gt {x : Int32} {off : Int} {tgt : Nat} (hX : jOk X own cc nL d) (hd : decode cc pc = .ok (.ifCond .gt off, 3)) (ht : (pc : Int) + off = (tgt : Int)) (kt : 0 < x → J X cells slots n h lv st tgt) (kf : ¬ 0 < x → J X cells slots n h lv st (pc + 3)) : J X cells slots n h lv (.int x :: st) pc :=
  fun ad H locs ls q0 => lv_if_gt hX.1 hX.2.1 hd ht (fun z => kt z ad H locs ls ⟨q0.1, q0.2.1, q0.2.2.1, (fun q => q.2) q0.2.2.2.1, q0.2.2.2.2⟩) (fun z => kf z ad H locs ls ⟨q0.1, q0.2.1, q0.2.2.1, (fun q => q.2) q0.2.2.2.1, q0.2.2.2.2⟩)
theorem j_icmp_le {x y : Int32} {off : Int} {tgt : Nat} (hX : jOk X own cc nL d) (hd : decode cc pc = .ok (.if_icmp .le off, 3)) (ht : (pc : Int) + off = (tgt : Int)) (kt : x ≤ y → J X cells slots n h lv st tgt) (kf : ¬ x ≤ y → J X cells slots n h lv st (pc + 3)) : J X cells slots n h lv (.int y :: .int x :: st) pc :=
  fun ad H locs ls q0 => lv_icmp_le hX.1 hX.2.1 hd ht (fun z => kt z ad H locs ls ⟨q0.1, q0.2.1, q0.2.2.1, (fun q => q.2.2) q0.2.2.2.1, q0.2.2.2.2⟩) (fun z => kf z ad H locs ls ⟨q0.1, q0.2.1, q0.2.2.1, (fun q => q.2.2) q0.2.2.2.1, q0.2.2.2.2⟩)
theorem j_if_le {x : Int32} {off : Int} {tgt : Nat} (hX : jOk X own cc nL d) (hd : decode cc pc = .ok (.ifCond .le off, 3)) (ht : (pc : Int) + off = (tgt : Int)) (kt : x ≤ 0 → J X cells slots n h lv st tgt) (kf : ¬ x ≤ 0 → J X cells slots n h lv st (pc + 3)) : J X cells slots n h lv (.int x :: st) pc :=
  fun ad H locs ls q0 => lv_if_le hX.1 hX.2.1 hd ht (fun z => kt z ad H locs ls ⟨q0.1, q0.2.1, q0.2.2.1, (fun q => q.2) q0.2.2.2.1, q0.2.2.2.2⟩) (fun z => kf z ad H locs ls ⟨q0.1, q0.2.1, q0.2.2.1, (fun q => q.2) q0.2.2.2.1, q0.2.2.2.2⟩)
theorem j_goto {off : Int} {tgt : Nat} (hX : jOk X own cc nL d) (hd : decode cc pc = .ok (.goto off, 3)) (ht : (pc : Int) + off = (tgt : Int)) (k : J X cells slots n h lv st tgt) : J X cells slots n h lv st pc :=
  j_lift k (fun _ _ q => q) (fun ad H locs ls q w => lv_goto hX.1 hX.2.1 hd ht w)
theorem j_tabEq {dflt lo hi : Int} {offs : Array Int} {len : Nat} {x : Int32} {off : Int} {tgt : Nat} (v : Int32) (hX : jOk X own cc nL d) (hd : decode cc pc = .ok (.tableswitch dflt lo hi offs, len)) (hv : x = v) (h1 : ¬ v.toInt < lo) (h2 : ¬ hi < v.toInt) (ho : offs[(v.toInt - lo).toNat]? = some off) (ht : (pc : Int) + off = (tgt : Int)) (k : J X cells slots n h lv st tgt) : J X cells slots n h lv (.int x :: st) pc := by
  subst hv
  exact j_lift k (fun _ _ q => q.2) (fun ad H locs ls q w => lv_tableIn hX.1 hX.2.1 hd h1 h2 ho ht w)
theorem j_tabOut {dflt lo hi : Int} {offs : Array Int} {len : Nat} {x : Int32} {tgt : Nat} (hX : jOk X own cc nL d) (hd : decode cc pc = .ok (.tableswitch dflt lo hi offs, len)) (hv : x.toInt < lo ∨ hi < x.toInt) (ht : (pc : Int) + dflt = (tgt : Int)) (k : J X cells slots n h lv st tgt) : J X cells slots n h lv (.int x :: st) pc :=
  j_lift k (fun _ _ q => q.2) (fun ad H locs ls q w => lv_tableOut hX.1 hX.2.1 hd hv ht w)
theorem j_look {dflt : Int} {ps : Array (Int × Int)} {len : Nat} {x : Int32} {off : Int} {tgt : Nat} (hX : jOk X own cc nL d) (hd : decode cc pc = .ok (.lookupswitch dflt ps, len)) (hp : (ps.toList.zip (ps.toList.drop 1)).all (fun (a, next) => a.1 < next.1) = true) (ho : Op.lookupswitch.offset ps.toList dflt x.toInt = off) (ht : (pc : Int) + off = (tgt : Int)) (k : J X cells slots n h lv st tgt) : J X cells slots n h lv (.int x :: st) pc :=
  j_lift k (fun _ _ q => q.2) (fun ad H locs ls q w => lv_lookup hX.1 hX.2.1 hd hp ho ht w)
theorem j_istore_n {i : Fin 4} {j : Nat} {x : Int32} (hX : jOk X own cc nL d) (hd : decode cc pc = .ok (.istore_n i, 1)) (hi : (i : Nat) = j) (hn : j < nL) (hz : j ≠ 0) (k : J X cells slots n h (jst lv j (.int x)) st (pc + 1)) : J X cells slots n h lv (.int x :: st) pc :=
  fun ad H locs ls q => lv_istore_n hX.1 hX.2.1 hd hi q.2.2.1 (by rw [hX.2.2.1]; exact hn) rfl (fun ls2 h2 => k ad H locs ls2 ⟨q.1, q.2.1, j_stH (v := .int x) hX.2.2.2.2.2.2.2.2.2.2 hz h2, q.2.2.2.1.2, jokm_st q.2.2.2.2.1 trivial, q.2.2.2.2.2⟩)
theorem j_istore {j : Nat} {x : Int32} (hX : jOk X own cc nL d) (hd : decode cc pc = .ok (.istore j, 2)) (hn : j < nL) (hz : j ≠ 0) (k : J X cells slots n h (jst lv j (.int x)) st (pc + 2)) : J X cells slots n h lv (.int x :: st) pc :=
  fun ad H locs ls q => lv_istore hX.1 hX.2.1 hd q.2.2.1 (by rw [hX.2.2.1]; exact hn) rfl (fun ls2 h2 => k ad H locs ls2 ⟨q.1, q.2.1, j_stH (v := .int x) hX.2.2.2.2.2.2.2.2.2.2 hz h2, q.2.2.2.1.2, jokm_st q.2.2.2.2.1 trivial, q.2.2.2.2.2⟩)
theorem j_lstore_n {i : Fin 4} {j : Nat} {x : Int64} (hX : jOk X own cc nL d) (hd : decode cc pc = .ok (.lstore_n i, 1)) (hi : (i : Nat) = j) (hn : j + 1 < nL) (hz : j ≠ 0) (k : J X cells slots n h (jst2 lv j (.long x)) st (pc + 1)) : J X cells slots n h lv (.long x :: st) pc :=
  fun ad H locs ls q => lv_lstore_n hX.1 hX.2.1 hd hi q.2.2.1 (by rw [hX.2.2.1]; exact hn) rfl (fun ls2 h2 => k ad H locs ls2 ⟨q.1, q.2.1, j_stH2 (v := .long x) hX.2.2.2.2.2.2.2.2.2.2 hz h2, q.2.2.2.1.2, jokm_st2 q.2.2.2.2.1 trivial, q.2.2.2.2.2⟩)
theorem j_lstore {j : Nat} {x : Int64} (hX : jOk X own cc nL d) (hd : decode cc pc = .ok (.lstore j, 2)) (hn : j + 1 < nL) (hz : j ≠ 0) (k : J X cells slots n h (jst2 lv j (.long x)) st (pc + 2)) : J X cells slots n h lv (.long x :: st) pc :=
  fun ad H locs ls q => lv_lstore hX.1 hX.2.1 hd q.2.2.1 (by rw [hX.2.2.1]; exact hn) rfl (fun ls2 h2 => k ad H locs ls2 ⟨q.1, q.2.1, j_stH2 (v := .long x) hX.2.2.2.2.2.2.2.2.2.2 hz h2, q.2.2.2.1.2, jokm_st2 q.2.2.2.2.1 trivial, q.2.2.2.2.2⟩)
theorem j_astore_n {i : Fin 4} {j : Nat} {x : Nat} (hX : jOk X own cc nL d) (hd : decode cc pc = .ok (.astore_n i, 1)) (hi : (i : Nat) = j) (hn : j < nL) (hz : j ≠ 0) (k : J X cells slots n h (jst lv j (.ref x)) st (pc + 1)) : J X cells slots n h lv (.ref x :: st) pc :=
  fun ad H locs ls q => lv_astore_n hX.1 hX.2.1 hd hi q.2.2.1 (by rw [hX.2.2.1]; exact hn) rfl (fun ls2 h2 => k ad H locs ls2 ⟨q.1, q.2.1, j_stH (v := .ref x) hX.2.2.2.2.2.2.2.2.2.2 hz h2, q.2.2.2.1.2, jokm_st q.2.2.2.2.1 q.2.2.2.1.1, q.2.2.2.2.2⟩)
theorem j_astore {j : Nat} {x : Nat} (hX : jOk X own cc nL d) (hd : decode cc pc = .ok (.astore j, 2)) (hn : j < nL) (hz : j ≠ 0) (k : J X cells slots n h (jst lv j (.ref x)) st (pc + 2)) : J X cells slots n h lv (.ref x :: st) pc :=
  fun ad H locs ls q => lv_astore hX.1 hX.2.1 hd q.2.2.1 (by rw [hX.2.2.1]; exact hn) rfl (fun ls2 h2 => k ad H locs ls2 ⟨q.1, q.2.1, j_stH (v := .ref x) hX.2.2.2.2.2.2.2.2.2.2 hz h2, q.2.2.2.1.2, jokm_st q.2.2.2.2.1 q.2.2.2.1.1, q.2.2.2.2.2⟩)
theorem j_iinc {i : Nat} {a : Int} {x v : Int32} (hX : jOk X own cc nL d) (hd : decode cc pc = .ok (.iinc i a, 3)) (hg : jg lv i = some (.int x)) (hv : x + Int32.ofInt a = v) (hn : i < nL) (hz : i ≠ 0) (k : J X cells slots n h (jst lv i (.int v)) st (pc + 3)) : J X cells slots n h lv st pc := by
  intro ad H locs ls q
  obtain ⟨kk, hk⟩ := List.getElem?_of_mem (List.mem_append_right X.raw (List.mem_map.mpr ⟨(i, Value.int x), jg_mem hg, rfl⟩ : (i, Value.int x) ∈ jm ad lv))
  exact lv_iinc hX.1 hX.2.1 hd q.2.2.1 hk hv (by rw [hX.2.2.1]; exact hn) rfl (fun ls2 h2 => k ad H locs ls2 ⟨q.1, q.2.1, j_stH (v := .int v) hX.2.2.2.2.2.2.2.2.2.2 hz h2, q.2.2.2.1, jokm_st q.2.2.2.2.1 trivial, q.2.2.2.2.2⟩)
def jsub : List (Nat × Value) → List (Nat × Value) → Prop
  | [], _ => True
  | q :: r, lv => jg lv q.1 = some q.2 ∧ jsub r lv
theorem jsub_mem : ∀ {l lv : List (Nat × Value)}, jsub l lv → ∀ q ∈ l, q ∈ lv
  | [], _, _, q, hq => by simp at hq
  | a :: r, lv, hs, q, hq => by
    rcases List.mem_cons.mp hq with rfl | hq
    · exact jg_mem hs.1
    · exact jsub_mem hs.2 q hq
theorem j_sub {lv' : List (Nat × Value)} (hs : jsub lv' lv) (k : J X cells slots n h lv' st pc) : J X cells slots n h lv st pc :=
  fun ad H locs ls q => k ad H locs ls ⟨q.1, q.2.1, ⟨q.2.2.1.1, q.2.2.1.2.1, fun z hz => by
    rcases List.mem_append.mp hz with hz | hz
    · exact q.2.2.1.2.2 _ (List.mem_append_left _ hz)
    · obtain ⟨w, hw, rfl⟩ := List.mem_map.mp hz
      exact q.2.2.1.2.2 _ (List.mem_append_right _ (List.mem_map.mpr ⟨w, jsub_mem hs w hw, rfl⟩))⟩, q.2.2.2.1, fun z hz => q.2.2.2.2.1 z (jsub_mem hs z hz), q.2.2.2.2.2⟩
theorem j_widen {k1 k2 : Nat} (h1 : cells ≤ k1) (h2 : slots ≤ k2) (k : J X k1 k2 n h lv st pc) : J X cells slots n h lv st pc :=
  fun ad H locs ls q => W.widen h1 h2 (k ad H locs ls q)
end JR
section JF
variable {X : jX} {own : String} {cc : ByteArray} {nL d cells slots n : Nat} {h : jH} {lv : List (Nat × Value)} {st : List Value} {pc : Nat}
def jFld (own : String) (idx ci k : Nat) : Prop := ∃ (C : String) (T : u_T) (N : Nat), vwCl[ci]? = some (C, T, N) ∧ (∀ w ∈ u_ws C T N, w ∈ jTb) ∧ k < N ∧ Cond.fieldLink own idx (T k).1 (T k).2.1 (T k).2.2.1 ∈ jTb
def jFldP (own : String) (idx ci k : Nat) (fin : Bool) (ty : FieldType) : Prop := ∃ (C : String) (T : u_T) (N : Nat) (ty0 : Nat → FieldType), vwCl[ci]? = some (C, T, N) ∧ (∀ w ∈ u_ws C T N, w ∈ jTb) ∧ k < N ∧ Cond.fieldLink own idx (T k).1 (T k).2.1 (T k).2.2.1 ∈ jTb ∧
  (∀ k, k < N → parseFieldDescriptor (T k).2.2.1 = some (ty0 k)) ∧ (∀ a, a < N → ∀ b, b < N → a ≠ b → (T a).2.1 ≠ (T b).2.1) ∧ (T k).2.2.2 = fin ∧ parseFieldDescriptor (T k).2.2.1 = some ty ∧ (T k).1 = own
theorem j_getf {idx ci k p : Nat} {fs : List Value} {v : Value} (hX : jOk X own cc nL d) (hF : jFld own idx ci k) (hd : decode cc pc = .ok (.getfield idx, 3)) (he : h p = .inr (ci, fs)) (hv : fs[k]? = some v) (kk : J X cells slots n h lv (v :: st) (pc + 3)) : J X cells slots n h lv (.ref p :: st) pc := by
  intro ad H locs ls q
  obtain ⟨C, T, N, h1, h2, h3, h4⟩ := hF
  have hp : p < n := q.2.2.2.1.1
  have hw : (jW X.G ad n h)[p]? = some (ad p, .inr (ci, fs.map (jv ad))) := by rw [jW_at hp, he]; rfl
  have ho : jokc n (h p) := q.2.2.2.2.2 p hp
  rw [he] at ho
  exact va_get (ref := (T k).1) hX.1 hX.2.1 hX.2.2.2.2.1 h2 hX.2.2.2.1 hX.2.2.2.2.2.1 q.2.1.1 p hw h1 k h3 (hX.2.2.2.2.1 _ h4) (fun _ z => z) (v := jv ad v) (by rw [List.getElem?_map, hv]; rfl) hd
    (kk ad H locs ls ⟨q.1, q.2.1, q.2.2.1, ⟨jokl_get ho hv, q.2.2.2.1.2⟩, q.2.2.2.2⟩)
theorem jokh_up {p : Nat} {c : va_E} (hh : jokh n h) (hc : jokc n c) : jokh n (va_up h p c) := by
  intro i hi
  by_cases hip : i = p
  · subst hip; simpa [va_up] using hc
  · simpa [va_up, hip] using hh i hi
theorem jokh_push {c : va_E} (hh : jokh n h) (hc : jokc (n + 1) c) : jokh (n + 1) (va_up h n c) := by
  intro i hi
  by_cases hip : i = n
  · subst hip; simpa [va_up] using hc
  · simpa [va_up, hip] using jokc_mono (Nat.le_succ n) (hh i (by omega))
theorem j_putf {idx ci k p : Nat} {ty : FieldType} {fs : List Value} {v : Value} (hX : jOk X own cc nL d) (hF : jFldP own idx ci k false ty) (hd : decode cc pc = .ok (.putfield idx, 3)) (he : h p = .inr (ci, fs)) (hl : k < fs.length) (hn : ∀ ad, narrow ty (jv ad v) = jv ad v ∧ fits ty (jv ad v) = true)
    (kk : J X cells slots n (va_up h p (.inr (ci, fs.set k v))) lv st (pc + 3)) : J X cells slots n h lv (v :: .ref p :: st) pc := by
  intro ad H locs ls q
  obtain ⟨C, T, N, ty0, h1, h2, h3, h4, h5, h6, h7, h8, -⟩ := hF
  have hp : p < n := q.2.2.2.1.2.1
  have hw : (jW X.G ad n h)[p]? = some (ad p, .inr (ci, fs.map (jv ad))) := by rw [jW_at hp, he]; rfl
  have ho : jokc n (h p) := q.2.2.2.2.2 p hp
  rw [he] at ho
  have hs : (jW X.G ad n h).set p (ad p, .inr (ci, (fs.map (jv ad)).set k (jv ad v))) = jW X.G ad n (va_up h p (.inr (ci, fs.set k v))) := by
    rw [← jW_set]
    show _ = (jW X.G ad n h).set p (ad p, .inr (ci, (fs.set k v).map (jv ad)))
    rw [List.map_set]
  exact va_put (ref := (T k).1) hX.1 hX.2.1 hX.2.2.2.2.1 h2 ty0 h5 h6 hX.2.2.2.1 hX.2.2.2.2.2.1 q.2.1.1 q.2.1.2.1 q.2.1.2.2 p hw h1 k h3 (hX.2.2.2.2.1 _ h4) (fun _ z => z) h7 h8 (hn ad).1 (hn ad).2 (by rw [List.length_map]; exact hl) hd
    (fun H1 locs1 hP hD hS => kk ad H1 locs1 ls ⟨q.1, ⟨hs ▸ hP, hs ▸ hD, hS⟩, q.2.2.1, q.2.2.2.1.2.2, q.2.2.2.2.1, jokh_up q.2.2.2.2.2 (jokl_set ho q.2.2.2.1.1)⟩)
theorem j_putF {idx ci k p : Nat} {ty : FieldType} {fs : List Value} {v : Value} (hX : jOk X own cc nL d) (hin : X.meth.name = "<init>") (hF : jFldP own idx ci k true ty) (hd : decode cc pc = .ok (.putfield idx, 3)) (he : h p = .inr (ci, fs)) (hl : k < fs.length) (hn : ∀ ad, narrow ty (jv ad v) = jv ad v ∧ fits ty (jv ad v) = true)
    (kk : J X cells slots n (va_up h p (.inr (ci, fs.set k v))) lv st (pc + 3)) : J X cells slots n h lv (v :: .ref p :: st) pc := by
  intro ad H locs ls q
  obtain ⟨C, T, N, ty0, h1, h2, h3, h4, h5, h6, h7, h8, h9⟩ := hF
  have hp : p < n := q.2.2.2.1.2.1
  have hw : (jW X.G ad n h)[p]? = some (ad p, .inr (ci, fs.map (jv ad))) := by rw [jW_at hp, he]; rfl
  have ho : jokc n (h p) := q.2.2.2.2.2 p hp
  rw [he] at ho
  have hs : (jW X.G ad n h).set p (ad p, .inr (ci, (fs.map (jv ad)).set k (jv ad v))) = jW X.G ad n (va_up h p (.inr (ci, fs.set k v))) := by
    rw [← jW_set]
    show _ = (jW X.G ad n h).set p (ad p, .inr (ci, (fs.set k v).map (jv ad)))
    rw [List.map_set]
  exact va_putF (ref := (T k).1) hX.1 hX.2.1 hX.2.2.2.2.1 h2 ty0 h5 h6 hX.2.2.2.1 hX.2.2.2.2.2.1 q.2.1.1 q.2.1.2.1 q.2.1.2.2 p hw h1 k h3 (hX.2.2.2.2.1 _ h4) (fun _ z => z) h7 hin h9 h8 (hn ad).1 (hn ad).2 (by rw [List.length_map]; exact hl) hd
    (fun H1 locs1 hP hD hS => kk ad H1 locs1 ls ⟨q.1, ⟨hs ▸ hP, hs ▸ hD, hS⟩, q.2.2.1, q.2.2.2.1.2.2, q.2.2.2.2.1, jokh_up q.2.2.2.2.2 (jokl_set ho q.2.2.2.1.1)⟩)
theorem j_iald {p len : Nat} {f : Nat → Int32} {i : Int32} (hX : jOk X own cc nL d) (hd : decode cc pc = .ok (.iaload, 1)) (he : h p = .inl (0, len, .inl f)) (hin : vp_in i len) (kk : J X cells slots n h lv (.int (f i.toNatClampNeg) :: st) (pc + 1)) : J X cells slots n h lv (.int i :: .ref p :: st) pc := by
  intro ad H locs ls q
  have hp : p < n := q.2.2.2.1.2.1
  have hw : (jW X.G ad n h)[p]? = some (ad p, .inl (X.G 0, len, .inl f)) := by rw [jW_at hp, he]; rfl
  exact va_iald hX.1 hX.2.1 hX.2.2.2.2.2.1 q.2.1.1 p 0 hw rfl hin hd (kk ad H locs ls ⟨q.1, q.2.1, q.2.2.1, ⟨trivial, q.2.2.2.1.2.2⟩, q.2.2.2.2⟩)
theorem j_bald {p len : Nat} {f : Nat → Int32} {i : Int32} (hX : jOk X own cc nL d) (hd : decode cc pc = .ok (.baload, 1)) (he : h p = .inl (1, len, .inl f)) (hin : vp_in i len) (kk : J X cells slots n h lv (.int (f i.toNatClampNeg) :: st) (pc + 1)) : J X cells slots n h lv (.int i :: .ref p :: st) pc := by
  intro ad H locs ls q
  have hp : p < n := q.2.2.2.1.2.1
  have hw : (jW X.G ad n h)[p]? = some (ad p, .inl (X.G 1, len, .inl f)) := by rw [jW_at hp, he]; rfl
  exact va_bald hX.1 hX.2.1 hX.2.2.2.2.2.1 q.2.1.1 p 1 hw rfl hin hd (kk ad H locs ls ⟨q.1, q.2.1, q.2.2.1, ⟨trivial, q.2.2.2.1.2.2⟩, q.2.2.2.2⟩)
theorem j_iast {p len : Nat} {f : Nat → Int32} {i x : Int32} (hX : jOk X own cc nL d) (hd : decode cc pc = .ok (.iastore, 1)) (he : h p = .inl (0, len, .inl f)) (hin : vp_in i len) (kk : J X cells slots n (va_up h p (.inl (0, len, .inl (upd f i.toNatClampNeg x)))) lv st (pc + 1)) : J X cells slots n h lv (.int x :: .int i :: .ref p :: st) pc := by
  intro ad H locs ls q
  have hp : p < n := q.2.2.2.1.2.2.1
  have hw : (jW X.G ad n h)[p]? = some (ad p, .inl (X.G 0, len, .inl f)) := by rw [jW_at hp, he]; rfl
  have hs : (jW X.G ad n h).set p (ad p, .inl (X.G 0, len, .inl (upd f i.toNatClampNeg x))) = jW X.G ad n (va_up h p (.inl (0, len, .inl (upd f i.toNatClampNeg x)))) := by
    rw [← jW_set]; rfl
  exact va_iast hX.1 hX.2.1 hX.2.2.2.2.2.1 q.2.1.1 q.2.1.2.1 q.2.1.2.2 p 0 hw rfl hin hd (fun H1 locs1 hP hD hS => kk ad H1 locs1 ls ⟨q.1, ⟨hs ▸ hP, hs ▸ hD, hS⟩, q.2.2.1, q.2.2.2.1.2.2.2, q.2.2.2.2.1, jokh_up q.2.2.2.2.2 trivial⟩)
theorem j_bast {p len : Nat} {f : Nat → Int32} {i x : Int32} (hX : jOk X own cc nL d) (hd : decode cc pc = .ok (.bastore, 1)) (he : h p = .inl (1, len, .inl f)) (hin : vp_in i len) (kk : J X cells slots n (va_up h p (.inl (1, len, .inl (upd f i.toNatClampNeg (vp_nar .byte x))))) lv st (pc + 1)) : J X cells slots n h lv (.int x :: .int i :: .ref p :: st) pc := by
  intro ad H locs ls q
  have hp : p < n := q.2.2.2.1.2.2.1
  have hw : (jW X.G ad n h)[p]? = some (ad p, .inl (X.G 1, len, .inl f)) := by rw [jW_at hp, he]; rfl
  have hs : (jW X.G ad n h).set p (ad p, .inl (X.G 1, len, .inl (upd f i.toNatClampNeg (vp_nar .byte x)))) = jW X.G ad n (va_up h p (.inl (1, len, .inl (upd f i.toNatClampNeg (vp_nar .byte x))))) := by
    rw [← jW_set]; rfl
  exact va_bast hX.1 hX.2.1 hX.2.2.2.2.2.1 q.2.1.1 q.2.1.2.1 q.2.1.2.2 p 1 hw rfl hin hd (fun H1 locs1 hP hD hS => kk ad H1 locs1 ls ⟨q.1, ⟨hs ▸ hP, hs ▸ hD, hS⟩, q.2.2.1, q.2.2.2.1.2.2.2, q.2.2.2.2.1, jokh_up q.2.2.2.2.2 trivial⟩)
theorem j_newa {t : Nat} {ty : FieldType} {atype : ArrayType} {len : Int32} {N : Nat} (hX : jOk X own cc nL d) (hd : decode cc pc = .ok (.newarray atype, 2)) (hw : Cond.arrayClass (newarray.typeOf atype) ∈ jTb) (hty : newarray.typeOf atype = ty) (ht : ∀ G, (jty G)[t]? = some (G t, ty)) (hs : ty = .int ∨ ty = .byte)
    (hn : ¬ len < 0) (hN : len.toNatClampNeg = N) (hb : N * componentBytes ty ≤ 536870912) (h1 : cells + 1 ≤ X.R.cells) (h2 : slots + N ≤ X.R.slots)
    (kk : J X (cells + 1) (slots + N) (n + 1) (va_up h n (.inl (t, N, .inl (fun _ => 0)))) lv (.ref n :: st) (pc + 2)) : J X cells slots n h lv (.int len :: st) pc := by
  intro ad H locs ls q
  have hK := hX.2.2.2.2.2.1
  refine va_newa (a0 := (N, .inl (fun _ => 0))) hX.1 hX.2.1 (hX.2.2.2.2.1 _ hw) hty hK q.2.1.1 q.2.1.2.1 q.2.1.2.2 hX.2.2.2.2.2.2.1 (fun cA => by rcases hs with rfl | rfl <;> rfl) hn hN hb h1 h2 hd (fun qa cA H1 hK1 hP hD hS => ?_)
  have hcA : cA = X.G t := by
    have a1 := (hK1.2 (jty X.G).length (cA, ty) (by simp)).2
    have a2 := (hK.2 t _ (ht X.G)).2
    rcases hs with rfl | rfl
    · exact Option.some.inj ((show X.s.vm.findClass _ = some cA from a1).symm.trans (show X.s.vm.findClass _ = some (X.G t) from a2))
    · exact Option.some.inj ((show X.s.vm.findClass _ = some cA from a1).symm.trans (show X.s.vm.findClass _ = some (X.G t) from a2))
  subst hcA
  have he : jW X.G ad n h ++ [(qa, .inl (X.G t, N, .inl (fun _ => 0)))] = jW X.G (va_up ad n qa) (n + 1) (va_up h n (.inl (t, N, .inl (fun _ => 0)))) := jW_push (c := .inl (t, N, .inl (fun _ => 0))) q.2.2.2.2.2 trivial
  rw [he] at hP hD
  have hx : ∀ i, i < n → va_up ad n qa i = ad i := fun i hi => by simp [va_up, Nat.ne_of_lt hi]
  have k2 := kk (va_up ad n qa) H1 locs ls ⟨⟨fun i hi => (hx i (Nat.lt_of_lt_of_le hi q.1.2)).trans (q.1.1 i hi), Nat.le_succ_of_le q.1.2⟩, ⟨hP, hD, hS⟩, by rw [jm_ext hx q.2.2.2.2.1]; exact q.2.2.1, ⟨Nat.lt_succ_self n, jokl_mono (Nat.le_succ n) q.2.2.2.1.2⟩, fun z hz => jokv_mono (Nat.le_succ n) (q.2.2.2.2.1 z hz), jokh_push q.2.2.2.2.2 trivial⟩
  have e1 : (Value.ref n :: st).map (jv (va_up ad n qa)) = .ref qa :: st.map (jv ad) := by
    rw [List.map_cons, jl_ext hx q.2.2.2.1.2]
    simp [jv, va_up]
  rw [e1] at k2
  exact k2
end JF

section JC
variable {X : jX} {own : String} {cc : ByteArray} {nL d cells slots n : Nat} {h : jH} {lv : List (Nat × Value)} {st : List Value} {pc : Nat}
theorem j_new {idx ci N : Nat} {C : String} {T : u_T} {ty : Nat → FieldType} {fs : List Value} (hX : jOk X own cc nL d) (hd : decode cc pc = .ok (.new idx, 3)) (hc : vwCl[ci]? = some (C, T, N)) (hin : ∀ w ∈ u_ws C T N, w ∈ jTb) (hty : ∀ k, k < N → parseFieldDescriptor (T k).2.2.1 = some (ty k)) (hw1 : Cond.classLink own idx C ∈ jTb) (hw2 : Cond.instantiable C N ∈ jTb) (hw3 : Cond.initialized C ∈ jTb)
    (hfs : ∀ j, j < N → defaultValue (ty j) = vp_V fs j) (hok : ∀ ad, fs.map (jv ad) = fs) (hokl : jokl 0 fs) (h1 : cells + 1 ≤ X.R.cells) (h2 : slots + N ≤ X.R.slots) (kk : J X (cells + 1) (slots + N) (n + 1) (va_up h n (.inr (ci, fs))) lv (.ref n :: st) (pc + 3)) : J X cells slots n h lv st pc := by
  intro ad H locs ls q
  refine va_new (ci := ci) (fs := fs) hX.1 hX.2.1 hX.2.2.2.2.1 hin ty hty hX.2.2.2.1 (hX.2.2.2.2.1 _ hw1) (hX.2.2.2.2.1 _ hw2) (hX.2.2.2.2.1 _ hw3) hX.2.2.2.2.2.1 q.2.1.1 q.2.1.2.1 q.2.1.2.2 hX.2.2.2.2.2.2.1 hc hfs h1 h2 hd (fun qa H1 hP hD hS => ?_)
  have he : jW X.G ad n h ++ [(qa, .inr (ci, fs))] = jW X.G (va_up ad n qa) (n + 1) (va_up h n (.inr (ci, fs))) := by
    have := jW_push (G := X.G) (ad := ad) (q := qa) (c := .inr (ci, fs)) q.2.2.2.2.2 (jokl_mono (Nat.zero_le n) hokl)
    rw [← this]
    show _ = jW X.G ad n h ++ [(qa, .inr (ci, fs.map (jv ad)))]
    rw [hok]
  rw [he] at hP hD
  have hx : ∀ i, i < n → va_up ad n qa i = ad i := fun i hi => by simp [va_up, Nat.ne_of_lt hi]
  have k2 := kk (va_up ad n qa) H1 locs ls ⟨⟨fun i hi => (hx i (Nat.lt_of_lt_of_le hi q.1.2)).trans (q.1.1 i hi), Nat.le_succ_of_le q.1.2⟩, ⟨hP, hD, hS⟩, by rw [jm_ext hx q.2.2.2.2.1]; exact q.2.2.1, ⟨Nat.lt_succ_self n, jokl_mono (Nat.le_succ n) q.2.2.2.1⟩, fun z hz => jokv_mono (Nat.le_succ n) (q.2.2.2.2.1 z hz), jokh_push q.2.2.2.2.2 (jokl_mono (Nat.zero_le _) hokl)⟩
  have e1 : (Value.ref n :: st).map (jv (va_up ad n qa)) = .ref qa :: st.map (jv ad) := by
    rw [List.map_cons, jl_ext hx q.2.2.2.1]
    simp [jv, va_up]
  rw [e1] at k2
  exact k2
abbrev jMd : Type := MethodName × ByteArray × Nat × Option FieldType
def jws (M : jMd) : List Cond := .code M.1 M.2.1 M.2.2.1 M.2.2.2 :: jTb
def jQc (D : va_G) (G : Nat → ClassId) (n0 : Nat) (ad0 : Nat → Nat) (A : Nat → Prop) (Post : Option Value → Nat → jH → Prop) : Array Value → State → Outcome → State → Prop := fun _ s0 oc t =>
  ∃ (r : Option Value) (n : Nat) (h : jH) (ad : Nat → Nat), oc = .returned (r.map (jv ad)) ∧ Post r n h ∧ n0 ≤ n ∧ (∀ i, i < n0 → ad i = ad0 i) ∧ jokl n r.toList ∧ jokh n h ∧ va_P D vwCl (jW G ad n h) t.heap ∧ va_K D vwCl (jty G) t ∧ va_D A (jW G ad n h) ∧ va_F A s0 t
def jPc (D : va_G) (G : Nat → ClassId) (as : List Value) (n : Nat) (h : jH) (ad : Nat → Nat) (sz : Nat) : Array Value → State → Prop :=
  va_Pc (as.map (jv ad)) (fun U => U.heap.size = sz ∧ va_P D vwCl (jW G ad n h) U.heap ∧ va_K D vwCl (jty G) U ∧ va_D (fun _ => True) (jW G ad n h) ∧ jNk U)
def jM (l : Launch) (D : va_G) (G : Nat → ClassId) (d mc ms : Nat) (M : jMd) (as : List Value) (n : Nat) (h : jH) (Post : Option Value → Nat → jH → Prop) : Prop :=
  ∀ (ad : Nat → Nat) (sz : Nat), jokl n as → jokh n h → Met l M.1 (jws M) { frames := d, cells := mc, slots := ms, locals := 64 * d } (jPc D G as n h ad sz) (jQc D G n ad (va_A (jW G ad n h) sz) Post) mc ms (va_A (jW G ad n h) sz)
def jEnd (X : jX) (ret : Option FieldType) (mc ms : Nat) (Post : Option Value → Nat → jH → Prop) : Prop :=
  X.meth.sig.returnType = ret ∧ X.meth.locks = false ∧ X.Q = MQ X.below (jQc X.D X.G X.n0 X.ad0 X.A Post) X.args X.s mc ms X.A
theorem j_args (ad : Nat → Nat) : ∀ (k : Nat) (as : List Value), lv_args k (as.map (jv ad)) = jm ad (lv_args k as)
  | _, [] => rfl
  | k, v :: r => by
    show lv_args k (jv ad v :: r.map (jv ad)) = jm ad (lv_args k (v :: r))
    unfold lv_args
    rw [jv_cat, j_args ad _ r]
    rfl
theorem j_sl (ad : Nat → Nat) : ∀ (as : List Value), (lg_sl (as.map (jv ad))).length = (lg_sl as).length
  | [] => rfl
  | v :: r => by
    have := j_sl ad r
    unfold lg_sl at this ⊢
    rw [List.map_cons, List.flatMap_cons, List.flatMap_cons, List.length_append, List.length_append, this, jv_cat]
    by_cases hc : v.category = 2 <;> simp [hc]
theorem j_argok {n : Nat} : ∀ (k : Nat) {as : List Value}, jokl n as → jokm n (lv_args k as)
  | _, [], _ => fun q hq => by simp [lv_args] at hq
  | k, v :: r, h => by
    intro q hq
    unfold lv_args at hq
    rcases List.mem_cons.mp hq with rfl | hq
    · exact h.1
    · exact j_argok _ h.2 q hq
theorem jM_of {l : Launch} {D : va_G} {G : Nat → ClassId} {mc ms : Nat} {M : jMd} {as : List Value} {Post : Option Value → Nat → jH → Prop} (hy : plainName M.1.cls = true) (hsl : (lg_sl as).length ≤ M.2.2.1)
    (body : ∀ X : jX, X.l = l → X.D = D → X.G = G → X.R.cells = mc → X.R.slots = ms → jOk X M.1.cls M.2.1 M.2.2.1 d → jEnd X M.2.2.2 mc ms Post → X.meth.name = M.1.name → J X 0 0 n h (lv_args 0 as) [] 0) : jM l D G d mc ms M as n h Post := by
  intro ad sz ho hh
  refine Met.ofW (cc := M.2.1) (maxL := M.2.2.1) (ret := M.2.2.2) hy rfl ?_
  intro p e s m args below meth c s₁ B hml hv
  obtain ⟨hargs, hsz, hP, hK, hD0, hN0⟩ := hv
  subst hsz
  have hts := atoms_spec (ws := jws M) B.pre
  have hown : s.vm.findClass M.1.cls = some m.cls := findClass_of_methodNamed B.named
  have hnm : meth.name = M.1.name := (name_of_methodNamed B.named B.method).1
  have k := body ((p, l, e, (headSpec (jws M) { frames := d, cells := mc, slots := ms, locals := 64 * d }).room, s), (m, args, below, meth, c), (MQ below (jQc D G n ad (va_A (jW G ad n h) s.heap.size) Post) args s mc ms (va_A (jW G ad n h) s.heap.size), va_A (jW G ad n h) s.heap.size, D, G), (n, ad, [])) rfl rfl rfl rfl rfl
    ⟨B.exec, B.bytes, hml, hown, fun w hw => hts w (List.mem_cons_of_mem _ hw), hK, fun q hq => Or.inr hq, Nat.le_refl _, Nat.le_refl _, hN0, fun q hq => (List.not_mem_nil (show q ∈ ([] : List (Nat × Value)) from hq)).elim⟩ ⟨B.returns, B.notSynchronized, rfl⟩ hnm
  have hl := lv_entry (as.map (jv ad)) (n := M.2.2.1) (by rw [j_sl]; exact hsl)
  rw [j_args] at hl
  subst hargs
  rw [lg_entry_eq]
  exact k ad s.heap [] _ ⟨⟨fun _ _ => rfl, Nat.le_refl n⟩, ⟨hP, hD0.self, va_S.rf⟩, by rw [show (M.2.2.1) = c.maxLocals from hml.symm] at hl; rw [← hml] at *; exact hl, trivial, j_argok 0 ho, hh⟩
theorem j_iret {ret : Option FieldType} {ty : FieldType} {mc ms : Nat} {Post : Option Value → Nat → jH → Prop} {v : Int32} (hX : jOk X own cc nL d) (hE : jEnd X ret mc ms Post) (hr : ret = some ty) (hn : narrow ty (.int v) = .int v) (hd : decode cc pc = .ok (.ireturn, 1)) (h1 : cells ≤ mc) (h2 : slots ≤ ms) (hp : Post (some (.int v)) n h) : J X cells slots n h lv [.int v] pc := by
  intro ad H locs ls q
  obtain ⟨e1, e2, e3⟩ := hE
  unfold jGo
  rw [e3]
  refine W.widen h1 h2 ?_
  exact W.zret (ty := ty) hX.1 hX.2.1 (e1.trans hr) hn (fun t ht hW => ⟨some (.int v), n, h, ad, rfl, hp, q.1.2, q.1.1, ⟨trivial, trivial⟩, q.2.2.2.2.2, by rw [ht]; exact q.2.1.1, va_K.moved hW.alike hX.2.2.2.2.2.1, q.2.1.2.1, q.2.1.2.2.F ht⟩) q.2.1.2.2.2.2 hd e2
theorem j_lret {mc ms : Nat} {Post : Option Value → Nat → jH → Prop} {v : Int64} (hX : jOk X own cc nL d) (hE : jEnd X (some .long) mc ms Post) (hd : decode cc pc = .ok (.lreturn, 1)) (h1 : cells ≤ mc) (h2 : slots ≤ ms) (hp : Post (some (.long v)) n h) : J X cells slots n h lv [.long v] pc := by
  intro ad H locs ls q
  obtain ⟨e1, e2, e3⟩ := hE
  unfold jGo
  rw [e3]
  refine W.widen h1 h2 ?_
  exact W.lret hX.1 hX.2.1 e1 (fun t ht hW => ⟨some (.long v), n, h, ad, rfl, hp, q.1.2, q.1.1, ⟨trivial, trivial⟩, q.2.2.2.2.2, by rw [ht]; exact q.2.1.1, va_K.moved hW.alike hX.2.2.2.2.2.1, q.2.1.2.1, q.2.1.2.2.F ht⟩) q.2.1.2.2.2.2 hd e2
theorem j_vret {mc ms : Nat} {Post : Option Value → Nat → jH → Prop} (hX : jOk X own cc nL d) (hE : jEnd X none mc ms Post) (hd : decode cc pc = .ok (.return_, 1)) (h1 : cells ≤ mc) (h2 : slots ≤ ms) (hp : Post none n h) : J X cells slots n h lv [] pc := by
  intro ad H locs ls q
  obtain ⟨e1, e2, e3⟩ := hE
  unfold jGo
  rw [e3]
  refine W.widen h1 h2 ?_
  exact W.vret hX.1 hX.2.1 e1 (fun t ht hW => ⟨none, n, h, ad, rfl, hp, q.1.2, q.1.1, trivial, q.2.2.2.2.2, by rw [ht]; exact q.2.1.1, va_K.moved hW.alike hX.2.2.2.2.2.1, q.2.1.2.1, q.2.1.2.2.F ht⟩) q.2.1.2.2.2.2 hd e2
theorem j_behind {mc ms : Nat} {Post : Option Value → Nat → jH → Prop} {ad : Nat → Nat} {H : Heap} {locs : List Loc} {ls : Array Slot} {st0 : List Value} {a : Array Value} (hX : jOk X own cc nL d) (q1 : (∀ i, i < X.n0 → ad i = X.ad0 i) ∧ X.n0 ≤ n) (q2 : va_P X.D vwCl (jW X.G ad n h) H ∧ va_D X.A (jW X.G ad n h) ∧ va_S X.A X.s.heap H locs) (q3 : lv_has ls X.c.maxLocals (X.raw ++ jm ad lv)) (q4 : jokl n st) (q5 : jokm n lv)
    (hr : va_Run X.p X.l X.e X.R X.s X.m X.args X.below X.meth X.c H locs cells slots mc ms (F0 X.m pc ls st0) (st.map (jv ad)) (jQc X.D X.G n ad (va_A (jW X.G ad n h) H.size) Post a) (va_A (jW X.G ad n h) H.size))
    (k : ∀ (r : Option Value) (n' : Nat) (h' : jH), Post r n' h' → n ≤ n' → J X (cells + mc) (slots + ms) n' h' lv (r.toList ++ st) (pc + 3)) : jGo X cells slots H locs (F0 X.m pc ls st0) := by
  intro T hT Z
  obtain ⟨v, st₀, t, T', L, h0, Z', hL, e1, e2, ⟨r, n', h', ad', hv, hp, hn, hx, ho, hh, hP, hK, hD, hz, hk⟩, go⟩ := hr T hT Z
  have hv' : v = r.map (jv ad') := by injection hv
  subst hv'
  rw [h0] at hz hk
  have hA : ∀ q, va_A (jW X.G ad n h) H.size q → X.A q := by
    intro q hq
    rcases hq with ⟨i, e, hi⟩ | hq
    · exact q2.2.1.2 i _ hi
    · exact hX.2.2.2.2.2.2.1 q (Nat.le_trans q2.2.2.1 hq)
  have hS : va_S X.A X.s.heap t.heap (locs ++ L) := ⟨Nat.le_trans q2.2.2.1 hz, fun q h1 h2 => by rw [hk q (Nat.lt_of_lt_of_le h1 q2.2.2.1) (fun z => h2 (hA q z))]; exact q2.2.2.2.1 q h1 h2, fun q hq => by
    rcases List.mem_append.mp hq with hq | hq
    · exact q2.2.2.2.2 q hq
    · exact hA _ (hL q hq)⟩
  have k2 := k r n' h' hp hn ad' t.heap (locs ++ L) ls ⟨⟨fun i hi => (hx i (Nat.lt_of_lt_of_le hi q1.2)).trans (q1.1 i hi), Nat.le_trans q1.2 hn⟩, ⟨hP, hD.weaken (fun _ _ _ z => hA _ z), hS⟩, by rw [jm_ext hx q5]; exact q3, jokl_app ho (jokl_mono hn q4), fun z hz => jokv_mono hn (q5 z hz), hh⟩
  obtain ⟨t2, a1, b1⟩ := k2 T' e1 Z'
  refine ⟨t2, go t2 ?_, b1⟩
  have e3 : (r.toList ++ st).map (jv ad') = (r.map (jv ad')).toList ++ st.map (jv ad) := by
    rw [List.map_append, jl_ext hx q4]
    cases r <;> rfl
  rw [e3] at a1
  exact a1
def jGood : Prop := ∀ w ∈ jTb, ((w.onTables && w.keeps) = true ∨ ∃ ty, w = .arrayClass ty)
def jLk (M : jMd) (np : Nat) : Prop := Cond.code M.1 M.2.1 M.2.2.1 M.2.2.2 ∈ jTb ∧ Cond.initialized M.1.cls ∈ jTb ∧ (M.1.cls ≠ "java/lang/invoke/MethodHandle" ∧ M.1.cls ≠ "java/lang/invoke/VarHandle" ∧ (parseMethodDescriptor M.1.desc).map (fun d => d.parameters.length) = some np) ∧ M.2.2.1 ≤ 45
theorem jws_good (hg : jGood) {M : jMd} {np : Nat} (hL : jLk M np) : GoodIn jTb (jws M) := by
  intro w hw
  rcases List.mem_cons.mp hw with rfl | hw
  · exact ⟨hL.1, hg _ hL.1⟩
  · exact ⟨hw, hg _ hw⟩
theorem jPc_blind {D : va_G} {G : Nat → ClassId} {as : List Value} {ad : Nat → Nat} {sz : Nat} : FrameBlind (jPc D G as n h ad sz) := by
  intro a U g mk q
  obtain ⟨q0, q1, qP, qK, qD, qN⟩ := q
  exact ⟨q0, q1, qP, va_K.moved (u := U) (U := U.calling g mk a) (Vm.Alike.refl U.vm) qK, qD, fun z hz => va_Nw.same (u := U) (U := U.calling g mk a) rfl rfl (qN z hz)⟩
theorem jRoom {R : Room} {d d' mc ms mx : Nat} (h1 : d ≤ R.frames) (h2 : 64 * d ≤ R.locals) (hd : d' + 1 ≤ d) (hm : mx ≤ 45) : ({ frames := d', cells := mc, slots := ms, locals := 64 * d' } : Room).frames + 1 ≤ R.frames ∧ 8 + (mx + 11) + ({ frames := d', cells := mc, slots := ms, locals := 64 * d' } : Room).locals ≤ R.locals := by
  refine ⟨Nat.le_trans hd h1, ?_⟩
  show 8 + (mx + 11) + 64 * d' ≤ R.locals
  omega
theorem j_callV {idx np ci p d' mc ms : Nat} {M : jMd} {as : List Value} {fs : List Value} {qc : vw_C} {Post : Option Value → Nat → jH → Prop} (hX : jOk X own cc nL d) (hg : jGood) (hL : jLk M np) (hl : Cond.methodLink own idx M.1 ∈ jTb) (hi : Cond.instanceMethod M.1 ∈ jTb) (hs : Cond.selects M.1.cls M.1 M.1 ∈ jTb) (hd : decode cc pc = .ok (.invokevirtual idx, 3)) (hci : vwCl[ci]? = some qc) (hqc : qc.1 = M.1.cls) (he : h p = .inr (ci, fs)) (hlen : as.length = np) (hdd : d' + 1 ≤ d)
    (hM : jM X.l X.D X.G d' mc ms M (.ref p :: as) n h Post) (hcat : (st.map fun v => v.category).sum ≤ 8) (hc : cells + mc ≤ X.R.cells ∧ slots + ms ≤ X.R.slots)
    (k : ∀ (r : Option Value) (n' : Nat) (h' : jH), Post r n' h' → n ≤ n' → J X (cells + mc) (slots + ms) n' h' lv (r.toList ++ st) (pc + 3)) : J X cells slots n h lv (as.reverse ++ .ref p :: st) pc := by
  intro ad H locs ls q
  have hok := jokl_of_app q.2.2.2.1
  have hp : p < n := hok.2.1
  have has : jokl n as := by have := jokl_rev hok.1; rwa [List.reverse_reverse] at this
  have hw : (jW X.G ad n h)[p]? = some (ad p, .inr (ci, fs.map (jv ad))) := by rw [jW_at hp, he]; rfl
  have hts := hX.2.2.2.2.1
  have hcw : CallW X.R X.s X.args own M.1.cls idx M.1 M.2.1 M.2.2.1 M.2.2.2 (jws M) { frames := d', cells := mc, slots := ms, locals := 64 * d' } mc ms np :=
    ⟨callB_of np hts (jws_good hg hL) rfl rfl rfl (hts _ hL.2.1) (hts _ hl) hL.2.2.1 (jRoom hX.2.2.2.2.2.2.2.1 hX.2.2.2.2.2.2.2.2.1 hdd hL.2.2.2), hts _ hi, hts _ hs⟩
  refine j_behind (st0 := (as.reverse ++ .ref p :: st).map (jv ad)) (a := (Value.ref (ad p) :: as.map (jv ad)).toArray) hX q.1 q.2.1 q.2.2.1 hok.2.2 q.2.2.2.2.1 ?_ k
  refine va_runV (As := as.map (jv ad)) (b := ad p) ⟨hX.1, hX.2.1, hX.2.2.1, hX.2.2.2.1, hts⟩ (hM ad H.size ⟨hp, has⟩ q.2.2.2.2.2) hcw ⟨jPc_blind, ?_, fun U hU hW => ⟨rfl, by rw [hU], by rw [hU]; exact q.2.1.1, va_K.moved hW.alike hX.2.2.2.2.2.1, q.2.1.2.1.weaken (fun _ _ _ _ => trivial), jNk.warm hW hX.2.2.2.2.2.2.2.2.2.1⟩⟩ rfl (by rw [List.length_map]; exact hlen) (q.2.2.1.1.trans hX.2.2.1) ?_ (lv_room (by rw [jv_sum]; exact hcat)) hd hc
  · have := va_recv hX.2.2.2.2.2.1 q.2.1.1 hci hw
    rwa [hqc] at this
  · show (as.reverse ++ .ref p :: st).map (jv ad) = _
    rw [List.map_append, List.map_reverse]; rfl
theorem j_callS {idx np d' mc ms : Nat} {M : jMd} {as : List Value} {Post : Option Value → Nat → jH → Prop} (hX : jOk X own cc nL d) (hg : jGood) (hL : jLk M np) (hl : Cond.methodLink own idx M.1 ∈ jTb) (hi : Cond.static M.1 ∈ jTb) (hd : decode cc pc = .ok (.invokestatic idx, 3)) (hlen : as.length = np) (hdd : d' + 1 ≤ d)
    (hM : jM X.l X.D X.G d' mc ms M as n h Post) (hcat : (st.map fun v => v.category).sum ≤ 8) (hc : cells + mc ≤ X.R.cells ∧ slots + ms ≤ X.R.slots)
    (k : ∀ (r : Option Value) (n' : Nat) (h' : jH), Post r n' h' → n ≤ n' → J X (cells + mc) (slots + ms) n' h' lv (r.toList ++ st) (pc + 3)) : J X cells slots n h lv (as.reverse ++ st) pc := by
  intro ad H locs ls q
  have hok := jokl_of_app q.2.2.2.1
  have has : jokl n as := by have := jokl_rev hok.1; rwa [List.reverse_reverse] at this
  have hts := hX.2.2.2.2.1
  have hcw : CallB X.R X.s X.args own idx M.1 M.2.1 M.2.2.1 M.2.2.2 (jws M) { frames := d', cells := mc, slots := ms, locals := 64 * d' } mc ms np ∧ (Cond.static M.1).before X.args X.s = true :=
    ⟨callB_of np hts (jws_good hg hL) rfl rfl rfl (hts _ hL.2.1) (hts _ hl) hL.2.2.1 (jRoom hX.2.2.2.2.2.2.2.1 hX.2.2.2.2.2.2.2.2.1 hdd hL.2.2.2), hts _ hi⟩
  refine j_behind (st0 := (as.reverse ++ st).map (jv ad)) (a := (as.map (jv ad)).toArray) hX q.1 q.2.1 q.2.2.1 hok.2 q.2.2.2.2.1 ?_ k
  refine va_runS (As := as.map (jv ad)) ⟨hX.1, hX.2.1, hX.2.2.1, hX.2.2.2.1, hts⟩ (hM ad H.size has q.2.2.2.2.2) hcw ⟨jPc_blind, fun U hU hW => ⟨rfl, by rw [hU], by rw [hU]; exact q.2.1.1, va_K.moved hW.alike hX.2.2.2.2.2.1, q.2.1.2.1.weaken (fun _ _ _ _ => trivial), jNk.warm hW hX.2.2.2.2.2.2.2.2.2.1⟩⟩ rfl (by rw [List.length_map]; exact hlen) (q.2.2.1.1.trans hX.2.2.1) ?_ (lv_room (by rw [jv_sum]; exact hcat)) hd hc
  show (as.reverse ++ st).map (jv ad) = _
  rw [List.map_append, List.map_reverse]
theorem j_callSN {idx np d' mc ms : Nat} {host : String} {M : jMd} {as : List Value} {Post : Option Value → Nat → jH → Prop} (hX : jOk X own cc nL d) (hg : jGood) (hL : jLk M np) (hl : (own, idx, M.1, host) ∈ jNs) (hi : Cond.static M.1 ∈ jTb) (hd : decode cc pc = .ok (.invokestatic idx, 3)) (hlen : as.length = np) (hdd : d' + 1 ≤ d)
    (hM : jM X.l X.D X.G d' mc ms M as n h Post) (hcat : (st.map fun v => v.category).sum ≤ 8) (hc : cells + mc ≤ X.R.cells ∧ slots + ms ≤ X.R.slots)
    (k : ∀ (r : Option Value) (n' : Nat) (h' : jH), Post r n' h' → n ≤ n' → J X (cells + mc) (slots + ms) n' h' lv (r.toList ++ st) (pc + 3)) : J X cells slots n h lv (as.reverse ++ st) pc := by
  intro ad H locs ls q
  have hok := jokl_of_app q.2.2.2.1
  have has : jokl n as := by have := jokl_rev hok.1; rwa [List.reverse_reverse] at this
  have hts := hX.2.2.2.2.1
  have hcw : va_CN X.R X.s X.args own idx M.1 host M.2.1 M.2.2.1 M.2.2.2 (jws M) { frames := d', cells := mc, slots := ms, locals := 64 * d' } mc ms np ∧ (Cond.static M.1).before X.args X.s = true ∧ True :=
    ⟨va_cnB np hts (jws_good hg hL) rfl rfl rfl (hX.2.2.2.2.2.2.2.2.2.1 _ hl) (hts _ hL.2.1) hL.2.2.1 (jRoom hX.2.2.2.2.2.2.2.1 hX.2.2.2.2.2.2.2.2.1 hdd hL.2.2.2), hts _ hi, trivial⟩
  refine j_behind (st0 := (as.reverse ++ st).map (jv ad)) (a := (as.map (jv ad)).toArray) hX q.1 q.2.1 q.2.2.1 hok.2 q.2.2.2.2.1 ?_ k
  refine va_runSN (As := as.map (jv ad)) ⟨hX.1, hX.2.1, hX.2.2.1, hX.2.2.2.1, hts⟩ (hM ad H.size has q.2.2.2.2.2) hcw ⟨jPc_blind, fun U hU hW => ⟨rfl, by rw [hU], by rw [hU]; exact q.2.1.1, va_K.moved hW.alike hX.2.2.2.2.2.1, q.2.1.2.1.weaken (fun _ _ _ _ => trivial), jNk.warm hW hX.2.2.2.2.2.2.2.2.2.1⟩⟩ rfl (by rw [List.length_map]; exact hlen) (q.2.2.1.1.trans hX.2.2.1) ?_ (lv_room (by rw [jv_sum]; exact hcat)) hd hc
  show (as.reverse ++ st).map (jv ad) = _
  rw [List.map_append, List.map_reverse]
theorem j_callVN {idx np ci p d' mc ms : Nat} {host : String} {M : jMd} {as : List Value} {fs : List Value} {qc : vw_C} {Post : Option Value → Nat → jH → Prop} (hX : jOk X own cc nL d) (hg : jGood) (hL : jLk M np) (hl : (own, idx, M.1, host) ∈ jNs) (hi : Cond.instanceMethod M.1 ∈ jTb) (hs : Cond.selects M.1.cls M.1 M.1 ∈ jTb) (hd : decode cc pc = .ok (.invokevirtual idx, 3)) (hci : vwCl[ci]? = some qc) (hqc : qc.1 = M.1.cls) (he : h p = .inr (ci, fs)) (hlen : as.length = np) (hdd : d' + 1 ≤ d)
    (hM : jM X.l X.D X.G d' mc ms M (.ref p :: as) n h Post) (hcat : (st.map fun v => v.category).sum ≤ 8) (hc : cells + mc ≤ X.R.cells ∧ slots + ms ≤ X.R.slots)
    (k : ∀ (r : Option Value) (n' : Nat) (h' : jH), Post r n' h' → n ≤ n' → J X (cells + mc) (slots + ms) n' h' lv (r.toList ++ st) (pc + 3)) : J X cells slots n h lv (as.reverse ++ .ref p :: st) pc := by
  intro ad H locs ls q
  have hok := jokl_of_app q.2.2.2.1
  have hp : p < n := hok.2.1
  have has : jokl n as := by have := jokl_rev hok.1; rwa [List.reverse_reverse] at this
  have hw : (jW X.G ad n h)[p]? = some (ad p, .inr (ci, fs.map (jv ad))) := by rw [jW_at hp, he]; rfl
  have hts := hX.2.2.2.2.1
  have hcw : va_CN X.R X.s X.args own idx M.1 host M.2.1 M.2.2.1 M.2.2.2 (jws M) { frames := d', cells := mc, slots := ms, locals := 64 * d' } mc ms np ∧ (Cond.instanceMethod M.1).before X.args X.s = true ∧ (Cond.selects M.1.cls M.1 M.1).before X.args X.s = true :=
    ⟨va_cnB np hts (jws_good hg hL) rfl rfl rfl (hX.2.2.2.2.2.2.2.2.2.1 _ hl) (hts _ hL.2.1) hL.2.2.1 (jRoom hX.2.2.2.2.2.2.2.1 hX.2.2.2.2.2.2.2.2.1 hdd hL.2.2.2), hts _ hi, hts _ hs⟩
  refine j_behind (st0 := (as.reverse ++ .ref p :: st).map (jv ad)) (a := (Value.ref (ad p) :: as.map (jv ad)).toArray) hX q.1 q.2.1 q.2.2.1 hok.2.2 q.2.2.2.2.1 ?_ k
  refine va_runVN (As := as.map (jv ad)) (b := ad p) ⟨hX.1, hX.2.1, hX.2.2.1, hX.2.2.2.1, hts⟩ (hM ad H.size ⟨hp, has⟩ q.2.2.2.2.2) hcw ⟨jPc_blind, ?_, fun U hU hW => ⟨rfl, by rw [hU], by rw [hU]; exact q.2.1.1, va_K.moved hW.alike hX.2.2.2.2.2.1, q.2.1.2.1.weaken (fun _ _ _ _ => trivial), jNk.warm hW hX.2.2.2.2.2.2.2.2.2.1⟩⟩ rfl (by rw [List.length_map]; exact hlen) (q.2.2.1.1.trans hX.2.2.1) ?_ (lv_room (by rw [jv_sum]; exact hcat)) hd hc
  · have := va_recv hX.2.2.2.2.2.1 q.2.1.1 hci hw
    rwa [hqc] at this
  · show (as.reverse ++ .ref p :: st).map (jv ad) = _
    rw [List.map_append, List.map_reverse]; rfl
def jMx (own : String) (idx : Nat) : Prop := Cond.methodLink own idx Lib.Math.max.name ∈ jTb ∧ Cond.static Lib.Math.max.name ∈ jTb ∧ Cond.initialized "java/lang/Math" ∈ jTb ∧ Cond.code Lib.Math.max.name Lib.Math.max.code 2 (some .int) ∈ jTb
def jMa (own : String) (idx : Nat) : Prop := Cond.methodLink own idx Lib.MathLoose.abs_long.x ∈ jTb ∧ Cond.static Lib.MathLoose.abs_long.x ∈ jTb ∧ Cond.initialized "java/lang/Math" ∈ jTb ∧ Cond.code Lib.MathLoose.abs_long.x Lib.MathLoose.abs_long.code 2 (some .long) ∈ jTb
theorem j_mmax {idx : Nat} {x y : Int32} (hX : jOk X own cc nL d) (hd : decode cc pc = .ok (.invokestatic idx, 3)) (hw : jMx own idx) (hdd : 1 ≤ d) (hcat : (st.map fun v => v.category).sum ≤ 8) (k : J X 0 0 n h lv (.int (if x < y then y else x) :: st) (pc + 3)) : J X 0 0 n h lv (.int y :: .int x :: st) pc := by
  intro ad H locs ls q
  have hts := hX.2.2.2.2.1
  have hl := hX.2.2.2.2.2.2.2.2.1
  refine va_mmax hX.1 hX.2.1 q.2.2.1.1.symm hX.2.2.2.1 (hts _ hw.1) (hts _ hw.2.1) (hts _ hw.2.2.1) (hts _ hw.2.2.2) (Nat.le_trans hdd hX.2.2.2.2.2.2.2.1) ?_ (Nat.zero_le _) (Nat.zero_le _) hd (k ad H locs ls ⟨q.1, q.2.1, q.2.2.1, ⟨trivial, q.2.2.2.1.2.2⟩, q.2.2.2.2⟩)
  rw [jv_sum]
  omega
theorem j_mabsl {idx : Nat} {x : Int64} (hX : jOk X own cc nL d) (hd : decode cc pc = .ok (.invokestatic idx, 3)) (hw : jMa own idx) (hdd : 1 ≤ d) (hcat : (st.map fun v => v.category).sum ≤ 8) (k : J X 0 0 n h lv (.long (if 0 < x then x else -x) :: st) (pc + 3)) : J X 0 0 n h lv (.long x :: st) pc := by
  intro ad H locs ls q
  have hts := hX.2.2.2.2.1
  have hl := hX.2.2.2.2.2.2.2.2.1
  refine va_mabs_long hX.1 hX.2.1 q.2.2.1.1.symm hX.2.2.2.1 (hts _ hw.1) (hts _ hw.2.1) (hts _ hw.2.2.1) (hts _ hw.2.2.2) (Nat.le_trans hdd hX.2.2.2.2.2.2.2.1) ?_ (Nat.zero_le _) (Nat.zero_le _) hd (k ad H locs ls ⟨q.1, q.2.1, q.2.2.1, ⟨trivial, q.2.2.2.1.2⟩, q.2.2.2.2⟩)
  rw [jv_sum]
  omega
end JC
