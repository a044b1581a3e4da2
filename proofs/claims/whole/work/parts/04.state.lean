def jN : Nat := 60
def jKc : Nat := 30
def jLay : List ((Nat × Nat) ⊕ (Nat × List (Option Nat))) := [.inr (9, [some 1, some 5, some 17, some 20, some 23, some 24, some 25, some 26, some 28, none]),
  .inr (7, [some 2, some 3, some 4, none]),
  .inl (0, 40),
  .inl (0, 40),
  .inl (0, 40),
  .inr (6, [some 1, some 6, some 7, some 8, some 9, some 10, some 11, some 12, some 13, some 14, some 15, some 16, none]),
  .inl (0, 400),
  .inl (0, 400),
  .inl (0, 400),
  .inl (0, 400),
  .inl (0, 400),
  .inl (0, 400),
  .inl (0, 400),
  .inl (0, 400),
  .inl (0, 400),
  .inl (0, 400),
  .inl (0, 400),
  .inr (8, [some 1, some 5, some 18, some 19, none, none]),
  .inl (0, 26),
  .inl (0, 26),
  .inr (0, [some 5, some 21, some 22]),
  .inl (0, 26),
  .inl (0, 26),
  .inr (3, [some 5]),
  .inr (5, [some 5, some 23]),
  .inr (1, [some 5]),
  .inr (2, [some 1, some 5, some 27, none]),
  .inl (1, 4000),
  .inr (4, [some 1, some 5, some 29, none, none]),
  .inl (1, 600),
  .inr (10, [none, some 31, some 32, some 33, some 34, none, some 35, some 36, some 37, some 38, some 39, some 40, some 41, some 42, none, some 43, some 44, some 45, some 46, some 47, some 48, some 49, none, some 50, none, none, some 51, some 52, none, some 53, some 54, none, some 55, none, some 56, none, none, some 57, some 58, some 59, none, none, none]),
  .inl (0, 40),
  .inl (0, 40),
  .inl (0, 40),
  .inl (0, 26),
  .inl (0, 400),
  .inl (0, 400),
  .inl (0, 400),
  .inl (0, 400),
  .inl (0, 1200),
  .inl (0, 400),
  .inl (0, 400),
  .inl (0, 10400),
  .inl (0, 90),
  .inl (0, 90),
  .inl (0, 90),
  .inl (0, 90),
  .inl (0, 90),
  .inl (0, 90),
  .inl (0, 90),
  .inl (0, 26),
  .inl (0, 26),
  .inl (0, 26),
  .inl (0, 41),
  .inl (0, 41),
  .inl (0, 4000),
  .inl (0, 4000),
  .inl (0, 44),
  .inl (0, 44),
  .inl (0, 600)]
theorem j_good : jGood := jTb_ok
abbrev jS : Type := Nat → Nat → Int32
def su (c : jS) (p k : Nat) (v : Int32) : jS := fun q => if q = p then upd (c p) k v else c q
def ix (i : Int32) (n : Nat) : Bool := !(decide (i < 0) || decide (n ≤ i.toNatClampNeg))
def nz32 (x : Int32) : Bool := !(decide (x = 0))
def nz64 (x : Int64) : Bool := !(decide (x = 0))
def bz (x : Int32) : Bool := decide (x = 0) || decide (x = 1)
def gd {α : Type} (b : Bool) (x : Option α) : Option α := match b with
  | true => x
  | false => none
def ob {α β : Type} (x : Option α) (k : α → Option β) : Option β := match x with
  | some a => k a
  | none => none
def bd {α β : Type} (x : Option (α × jS)) (k : α → jS → Option β) : Option β := match x with
  | some (a, c) => k a c
  | none => none
def lt {α : Type} (x : jS) (k : jS → Option α) : Option α := k x
theorem lt_some {α : Type} {x : jS} {k : jS → Option α} {y : α} (h : lt x k = some y) : ∃ c, c = x ∧ k c = some y := ⟨x, rfl, h⟩
theorem ix_in {i : Int32} {n : Nat} (h : ix i n = true) : vp_in i n := by
  unfold ix at h
  unfold vp_in
  simp at h
  intro q
  rcases q with q | q
  · exact absurd q (by simpa using h.1)
  · omega
theorem gd_some {α : Type} {b : Bool} {x : Option α} {y : α} (h : gd b x = some y) : b = true ∧ x = some y := by
  cases b with
  | true => exact ⟨rfl, h⟩
  | false => cases h
theorem ob_some {α β : Type} {x : Option α} {k : α → Option β} {y : β} (h : ob x k = some y) : ∃ a, x = some a ∧ k a = some y := by
  cases x with
  | some a => exact ⟨a, rfl, h⟩
  | none => cases h
theorem bd_some {α β : Type} {x : Option (α × jS)} {k : α → jS → Option β} {y : β} (h : bd x k = some y) : ∃ a c, x = some (a, c) ∧ k a c = some y := by
  cases x with
  | some q => exact ⟨q.1, q.2, rfl, h⟩
  | none => cases h
def om {σ ρ : Type} (x : Option ρ) : Option (σ ⊕ ρ) := match x with
  | some r => some (Sum.inr r)
  | none => none
def lpk {σ ρ : Type} (f : σ → Option (σ ⊕ ρ)) : Nat → σ → Option ρ
  | 0, _ => none
  | k + 1, s => match f s with
    | some (Sum.inl s') => lpk f k s'
    | some (Sum.inr r) => some r
    | none => none
theorem lpk_mono {σ ρ : Type} {f : σ → Option (σ ⊕ ρ)} : ∀ (k j : Nat) (s : σ) (r : ρ), lpk f k s = some r → lpk f (k + j) s = some r
  | 0, _, _, _, h => by cases h
  | k + 1, j, s, r, h => by
    rw [show k + 1 + j = (k + j) + 1 by omega]
    unfold lpk at h ⊢
    match hf : f s with
    | some (Sum.inl s') => rw [hf] at h; exact lpk_mono k j s' r h
    | some (Sum.inr r') => rw [hf] at h; exact h
    | none => rw [hf] at h; cases h
theorem lpk_det {σ ρ : Type} {f : σ → Option (σ ⊕ ρ)} {k k' : Nat} {s : σ} {r r' : ρ} (h : lpk f k s = some r) (h' : lpk f k' s = some r') : r = r' := by
  have a := lpk_mono k k' s r h
  have b := lpk_mono k' k s r' h'
  rw [Nat.add_comm] at b
  exact Option.some.inj (a.symm.trans b)
noncomputable def lp {σ ρ : Type} (f : σ → Option (σ ⊕ ρ)) (s : σ) : Option ρ :=
  @dite (Option ρ) (∃ r, ∃ k, lpk f k s = some r) (Classical.propDecidable _) (fun h => some h.choose) (fun _ => none)
theorem lp_of {σ ρ : Type} {f : σ → Option (σ ⊕ ρ)} {k : Nat} {s : σ} {r : ρ} (h : lpk f k s = some r) : lp f s = some r := by
  have he : ∃ r, ∃ k, lpk f k s = some r := ⟨r, k, h⟩
  unfold lp
  rw [dif_pos he]
  obtain ⟨k', h'⟩ := he.choose_spec
  rw [lpk_det h' h]
theorem lp_some {σ ρ : Type} {f : σ → Option (σ ⊕ ρ)} {s : σ} {r : ρ} (h : lp f s = some r) : ∃ k, lpk f k s = some r := by
  unfold lp at h
  by_cases he : ∃ r, ∃ k, lpk f k s = some r
  · rw [dif_pos he] at h
    have := he.choose_spec
    rw [Option.some.inj h] at this
    exact this
  · rw [dif_neg he] at h
    cases h
theorem lp_inr {σ ρ : Type} {f : σ → Option (σ ⊕ ρ)} {s : σ} {r : ρ} (h : f s = some (Sum.inr r)) : lp f s = some r :=
  lp_of (k := 1) (by unfold lpk; rw [h])
theorem lp_inl {σ ρ : Type} {f : σ → Option (σ ⊕ ρ)} {s s' : σ} (h : f s = some (Sum.inl s')) : lp f s = lp f s' := by
  match he : lp f s' with
  | some r =>
    obtain ⟨k, hk⟩ := lp_some he
    exact lp_of (k := k + 1) (by unfold lpk; rw [h]; exact hk)
  | none =>
    match hs : lp f s with
    | none => rfl
    | some r =>
      obtain ⟨k, hk⟩ := lp_some hs
      match k, hk with
      | k + 1, hk =>
        unfold lpk at hk
        rw [h] at hk
        rw [lp_of hk] at he
        cases he
def lq {σ ρ : Type} (f : σ → Option (σ ⊕ ρ)) (k : Nat) (r : ρ) (o : Option (σ ⊕ ρ)) : Prop := match o with
  | some (Sum.inl s) => lpk f k s = some r
  | some (Sum.inr r') => some r' = some r
  | none => False
theorem lpk_succ {σ ρ : Type} {f : σ → Option (σ ⊕ ρ)} {k : Nat} {s : σ} {r : ρ} (h : lpk f (k + 1) s = some r) : lq f k r (f s) := by
  unfold lpk at h
  unfold lq
  match hf : f s with
  | some (Sum.inl s') => rw [hf] at h; exact h
  | some (Sum.inr r') => rw [hf] at h; exact h
  | none => rw [hf] at h; cases h
section LQ
variable {σ ρ : Type} {f : σ → Option (σ ⊕ ρ)} {k : Nat} {r : ρ}
theorem lq_gd {b : Bool} {x : Option (σ ⊕ ρ)} (h : lq f k r (gd b x)) : b = true ∧ lq f k r x := by
  cases b with
  | true => exact ⟨rfl, h⟩
  | false => exact h.elim
theorem lq_ob {α : Type} {x : Option α} {g : α → Option (σ ⊕ ρ)} (h : lq f k r (ob x g)) : ∃ a, x = some a ∧ lq f k r (g a) := by
  cases x with
  | some a => exact ⟨a, rfl, h⟩
  | none => exact h.elim
theorem lq_bd {α : Type} {x : Option (α × jS)} {g : α → jS → Option (σ ⊕ ρ)} (h : lq f k r (bd x g)) : ∃ a c, x = some (a, c) ∧ lq f k r (g a c) := by
  cases x with
  | some q => exact ⟨q.1, q.2, rfl, h⟩
  | none => exact h.elim
theorem lq_lt {x : jS} {g : jS → Option (σ ⊕ ρ)} (h : lq f k r (lt x g)) : ∃ c, c = x ∧ lq f k r (g c) := ⟨x, rfl, h⟩
theorem lq_t {p : Prop} {hd : Decidable p} {a b : Option (σ ⊕ ρ)} (hp : p) (h : lq f k r (@ite _ p hd a b)) : lq f k r a := by rw [if_pos hp] at h; exact h
theorem lq_f {p : Prop} {hd : Decidable p} {a b : Option (σ ⊕ ρ)} (hp : ¬ p) (h : lq f k r (@ite _ p hd a b)) : lq f k r b := by rw [if_neg hp] at h; exact h
theorem lq_r {r' : ρ} (h : lq f k r (some (Sum.inr r'))) : some r' = some r := h
theorem lq_l {s : σ} (h : lq f k r (some (Sum.inl s))) : lpk f k s = some r := h
theorem lq_om {x : Option ρ} (h : lq f k r (om x)) : x = some r := by
  cases x with
  | some a => exact h
  | none => exact h.elim
theorem lq_x {o : Option (σ ⊕ ρ)} (h : lq f k r o) : ∃ q, o = some q ∧ lq f k r (some q) := by
  cases o with
  | some q => exact ⟨q, rfl, h⟩
  | none => exact h.elim
end LQ
def jfs (f : Nat → Int32) : Nat → List (Option Nat) → List Value
  | _, [] => []
  | k, some q :: r => .ref q :: jfs f (k + 1) r
  | k, none :: r => .int (f k) :: jfs f (k + 1) r
theorem jfs_len (f : Nat → Int32) : ∀ (k : Nat) (l : List (Option Nat)), (jfs f k l).length = l.length
  | _, [] => rfl
  | k, some q :: r => congrArg Nat.succ (jfs_len f (k + 1) r)
  | k, none :: r => congrArg Nat.succ (jfs_len f (k + 1) r)
theorem jfs_getI (f : Nat → Int32) : ∀ (k : Nat) (l : List (Option Nat)) (j : Nat), l[j]? = some none → (jfs f k l)[j]? = some (.int (f (k + j)))
  | k, none :: r, 0, _ => rfl
  | k, some q :: r, 0, h => by simp at h
  | k, some q :: r, j + 1, h => by
    have := jfs_getI f (k + 1) r j (by simpa using h)
    simpa [jfs, Nat.add_assoc, Nat.add_comm 1 j] using this
  | k, none :: r, j + 1, h => by
    have := jfs_getI f (k + 1) r j (by simpa using h)
    simpa [jfs, Nat.add_assoc, Nat.add_comm 1 j] using this
  | k, [], j, h => by simp at h
theorem jfs_getR (f : Nat → Int32) : ∀ (k : Nat) (l : List (Option Nat)) (j q : Nat), l[j]? = some (some q) → (jfs f k l)[j]? = some (.ref q)
  | k, some p :: r, 0, q, h => by
    have : p = q := by simpa using h
    rw [this]; rfl
  | k, none :: r, 0, q, h => by simp at h
  | k, some p :: r, j + 1, q, h => by simpa [jfs] using jfs_getR f (k + 1) r j q (by simpa using h)
  | k, none :: r, j + 1, q, h => by simpa [jfs] using jfs_getR f (k + 1) r j q (by simpa using h)
  | k, [], j, q, h => by simp at h
theorem jfs_ext {f g : Nat → Int32} : ∀ (k : Nat) (l : List (Option Nat)), (∀ j, k ≤ j → f j = g j) → jfs f k l = jfs g k l
  | _, [], _ => rfl
  | k, some q :: r, h => by unfold jfs; rw [jfs_ext (k + 1) r (fun j hj => h j (by omega))]
  | k, none :: r, h => by unfold jfs; rw [jfs_ext (k + 1) r (fun j hj => h j (by omega)), h k (Nat.le_refl k)]
theorem jfs_set (f : Nat → Int32) (v : Int32) : ∀ (k : Nat) (l : List (Option Nat)) (j : Nat), l[j]? = some none → (jfs f k l).set j (.int v) = jfs (upd f (k + j) v) k l
  | k, none :: r, 0, _ => by
    show Value.int v :: jfs f (k + 1) r = Value.int (upd f k v k) :: jfs (upd f k v) (k + 1) r
    rw [pk_us, jfs_ext (f := upd f k v) (g := f) (k + 1) r (fun j hj => pk_un (by omega))]
  | k, some q :: r, 0, h => by simp at h
  | k, some q :: r, j + 1, h => by
    have := jfs_set f v (k + 1) r j (by simpa using h)
    show Value.ref q :: (jfs f (k + 1) r).set j (.int v) = Value.ref q :: jfs (upd f (k + (j + 1)) v) (k + 1) r
    rw [this, show k + 1 + j = k + (j + 1) by omega]
  | k, none :: r, j + 1, h => by
    have := jfs_set f v (k + 1) r j (by simpa using h)
    show Value.int (f k) :: (jfs f (k + 1) r).set j (.int v) = Value.int (upd f (k + (j + 1)) v k) :: jfs (upd f (k + (j + 1)) v) (k + 1) r
    rw [this, show k + 1 + j = k + (j + 1) by omega, pk_un (by omega)]
  | k, [], j, h => by simp at h
def jE (c : jS) : jH := fun p => match jLay[p]? with
  | some (.inl a) => .inl (a.1, a.2, .inl (c p))
  | some (.inr o) => .inr (o.1, jfs (c p) 0 o.2)
  | none => .inl (0, 0, .inl (c p))
theorem jE_upA {c : jS} {p t len k : Nat} {v : Int32} (hl : jLay[p]? = some (.inl (t, len))) : va_up (jE c) p (.inl (t, len, .inl (upd (c p) k v))) = jE (su c p k v) := by
  funext q
  by_cases hq : q = p
  · subst hq
    simp [va_up, jE, hl, su]
  · simp [va_up, jE, su, hq]
theorem jE_upO {c : jS} {p ci k : Nat} {fl : List (Option Nat)} {v : Int32} (hl : jLay[p]? = some (.inr (ci, fl))) (hf : fl[k]? = some none) : va_up (jE c) p (.inr (ci, (jfs (c p) 0 fl).set k (.int v))) = jE (su c p k v) := by
  funext q
  by_cases hq : q = p
  · subst hq
    simp [va_up, jE, hl, su]
    rw [jfs_set _ _ _ _ _ hf, Nat.zero_add]
  · simp [va_up, jE, su, hq]
section KR
variable {X : jX} {own : String} {cc : ByteArray} {nL d cells slots n : Nat} {lv : List (Nat × Value)} {st : List Value} {pc : Nat} {c c' : jS}
theorem k_getI {idx ci k p : Nat} {fl : List (Option Nat)} {x : Int32} (hX : jOk X own cc nL d) (hF : jFld own idx ci k) (hd : decode cc pc = .ok (.getfield idx, 3)) (hl : jLay[p]? = some (.inr (ci, fl))) (hf : fl[k]? = some none) (hx : c p k = x) (kk : J X cells slots n (jE c) lv (.int x :: st) (pc + 3)) : J X cells slots n (jE c) lv (.ref p :: st) pc :=
  j_getf (fs := jfs (c p) 0 fl) hX hF hd (by unfold jE; rw [hl]) (by rw [jfs_getI _ _ _ _ hf, Nat.zero_add, hx]) kk
theorem k_getR {idx ci k p q : Nat} {fl : List (Option Nat)} (hX : jOk X own cc nL d) (hF : jFld own idx ci k) (hd : decode cc pc = .ok (.getfield idx, 3)) (hl : jLay[p]? = some (.inr (ci, fl))) (hf : fl[k]? = some (some q)) (kk : J X cells slots n (jE c) lv (.ref q :: st) (pc + 3)) : J X cells slots n (jE c) lv (.ref p :: st) pc :=
  j_getf (fs := jfs (c p) 0 fl) hX hF hd (by unfold jE; rw [hl]) (jfs_getR _ _ _ _ _ hf) kk
theorem k_putI {idx ci k p : Nat} {ty : FieldType} {fl : List (Option Nat)} {v : Int32} (hX : jOk X own cc nL d) (hF : jFldP own idx ci k false ty) (hd : decode cc pc = .ok (.putfield idx, 3)) (hl : jLay[p]? = some (.inr (ci, fl))) (hf : fl[k]? = some none) (hn : ∀ ad, narrow ty (jv ad (.int v)) = jv ad (.int v) ∧ fits ty (jv ad (.int v)) = true) (hs : su c p k v = c') (kk : J X cells slots n (jE c') lv st (pc + 3)) : J X cells slots n (jE c) lv (.int v :: .ref p :: st) pc :=
  j_putf (fs := jfs (c p) 0 fl) hX hF hd (by unfold jE; rw [hl]) (by rw [jfs_len]; exact (List.getElem?_eq_some_iff.mp hf).1) hn (by rw [jE_upO hl hf, hs]; exact kk)
theorem k_iald {p len : Nat} {i x : Int32} (hX : jOk X own cc nL d) (hd : decode cc pc = .ok (.iaload, 1)) (hl : jLay[p]? = some (.inl (0, len))) (hin : ix i len = true) (hx : c p i.toNatClampNeg = x) (kk : J X cells slots n (jE c) lv (.int x :: st) (pc + 1)) : J X cells slots n (jE c) lv (.int i :: .ref p :: st) pc :=
  j_iald (f := c p) hX hd (by unfold jE; rw [hl]) (ix_in hin) (by rw [hx]; exact kk)
theorem k_bald {p len : Nat} {i x : Int32} (hX : jOk X own cc nL d) (hd : decode cc pc = .ok (.baload, 1)) (hl : jLay[p]? = some (.inl (1, len))) (hin : ix i len = true) (hx : c p i.toNatClampNeg = x) (kk : J X cells slots n (jE c) lv (.int x :: st) (pc + 1)) : J X cells slots n (jE c) lv (.int i :: .ref p :: st) pc :=
  j_bald (f := c p) hX hd (by unfold jE; rw [hl]) (ix_in hin) (by rw [hx]; exact kk)
theorem k_iast {p len : Nat} {i v : Int32} (hX : jOk X own cc nL d) (hd : decode cc pc = .ok (.iastore, 1)) (hl : jLay[p]? = some (.inl (0, len))) (hin : ix i len = true) (hs : su c p i.toNatClampNeg v = c') (kk : J X cells slots n (jE c') lv st (pc + 1)) : J X cells slots n (jE c) lv (.int v :: .int i :: .ref p :: st) pc :=
  j_iast (f := c p) hX hd (by unfold jE; rw [hl]) (ix_in hin) (by rw [jE_upA hl, hs]; exact kk)
theorem k_bast {p len : Nat} {i v : Int32} (hX : jOk X own cc nL d) (hd : decode cc pc = .ok (.bastore, 1)) (hl : jLay[p]? = some (.inl (1, len))) (hin : ix i len = true) (hs : su c p i.toNatClampNeg (vp_nar .byte v) = c') (kk : J X cells slots n (jE c') lv st (pc + 1)) : J X cells slots n (jE c) lv (.int v :: .int i :: .ref p :: st) pc :=
  j_bast (f := c p) hX hd (by unfold jE; rw [hl]) (ix_in hin) (by rw [jE_upA hl, hs]; exact kk)
end KR
def jmix (c r : jS) : jS := fun p => cond (Nat.blt p jKc) (c p) (r p)
theorem jmix_x {c r : jS} {p k : Nat} {v : Int32} (hp : Nat.blt p jKc = true) : su (jmix c r) p k v = jmix (su c p k v) r := by
  funext q
  by_cases hq : q = p
  · subst hq; simp only [su, jmix, hp, if_true, cond_true]
  · simp only [su, jmix, hq, if_false]
theorem jmix_m {c r : jS} {p k : Nat} {v : Int32} (hp : Nat.blt p jKc = false) : su (jmix c r) p k v = jmix c (su r p k v) := by
  funext q
  by_cases hq : q = p
  · subst hq; simp only [su, jmix, hp, if_true, cond_false]
  · simp only [su, jmix, hq, if_false]
theorem jmix_xe {c r c1 : jS} {p k : Nat} {v : Int32} (hp : Nat.blt p jKc = true) (h : c1 = su c p k v) : su (jmix c r) p k v = jmix c1 r := by rw [h]; exact jmix_x hp
theorem jmix_me {c r c1 : jS} {p k : Nat} {v : Int32} (hp : Nat.blt p jKc = false) (h : c1 = su r p k v) : su (jmix c r) p k v = jmix c c1 := by rw [h]; exact jmix_m hp
def jC (l : Launch) (D : va_G) (G : Nat → ClassId) (d : Nat) (M : jMd) (as : List Value) (c : jS) (r : Option Value) (c' : jS) : Prop :=
  jM l D G d 0 0 M as jN (jE c) (fun r0 n0 h0 => r0 = r ∧ n0 = jN ∧ h0 = jE c')
theorem ite_t {α : Type} {p : Prop} {hd : Decidable p} {a b y : α} (hp : p) (h : @ite α p hd a b = y) : a = y := by rw [if_pos hp] at h; exact h
theorem ite_f {α : Type} {p : Prop} {hd : Decidable p} {a b y : α} (hp : ¬ p) (h : @ite α p hd a b = y) : b = y := by rw [if_neg hp] at h; exact h
theorem nz32_ne {x : Int32} (h : nz32 x = true) : ¬ x = 0 := by simpa [nz32] using h
theorem nz64_ne {x : Int64} (h : nz64 x = true) : ¬ x = 0 := by simpa [nz64] using h
theorem bz_nar {x : Int32} (h : bz x = true) : narrow .boolean (.int x) = .int x := by
  have h : x = 0 ∨ x = 1 := by simpa [bz] using h
  rcases h with rfl | rfl <;> rfl
def jLV (own : String) (idx : Nat) (M : jMd) (np ci : Nat) : Prop := jLk M np ∧ (Cond.methodLink own idx M.1 ∈ jTb ∨ ∃ host : String, (own, idx, M.1, host) ∈ jNs) ∧ Cond.instanceMethod M.1 ∈ jTb ∧ Cond.selects M.1.cls M.1 M.1 ∈ jTb ∧ ∃ qc : vw_C, vwCl[ci]? = some qc ∧ qc.1 = M.1.cls
def jLS (own : String) (idx : Nat) (M : jMd) (np : Nat) : Prop := jLk M np ∧ Cond.methodLink own idx M.1 ∈ jTb ∧ Cond.static M.1 ∈ jTb
def jLN (own : String) (idx : Nat) (M : jMd) (np : Nat) : Prop := jLk M np ∧ (∃ host : String, (own, idx, M.1, host) ∈ jNs) ∧ Cond.static M.1 ∈ jTb
section KC
variable {X : jX} {own : String} {cc : ByteArray} {nL d : Nat} {lv : List (Nat × Value)} {st : List Value} {pc : Nat} {c c' : jS}
theorem k_callV {idx np ci p d' : Nat} {M : jMd} {as : List Value} {fl : List (Option Nat)} {r : Option Value} (hX : jOk X own cc nL d) (hL : jLV own idx M np ci) (hd : decode cc pc = .ok (.invokevirtual idx, 3)) (hl : jLay[p]? = some (.inr (ci, fl))) (hlen : as.length = np) (hdd : d' + 1 ≤ d) (hM : jC X.l X.D X.G d' M (.ref p :: as) c r c') (hcat : (st.map fun v => v.category).sum ≤ 8) (k : J X 0 0 jN (jE c') lv (r.toList ++ st) (pc + 3)) : J X 0 0 jN (jE c) lv (as.reverse ++ .ref p :: st) pc := by
  obtain ⟨h1, h2, h3, h4, qc, h5, h6⟩ := hL
  rcases h2 with h2 | ⟨host, h2⟩
  · refine j_callV (fs := jfs (c p) 0 fl) hX j_good h1 h2 h3 h4 hd h5 h6 (by unfold jE; rw [hl]) hlen hdd hM hcat ⟨Nat.zero_le _, Nat.zero_le _⟩ ?_
    intro r0 n0 h0 hp _
    obtain ⟨rfl, rfl, rfl⟩ := hp
    exact k
  · refine j_callVN (fs := jfs (c p) 0 fl) hX j_good h1 h2 h3 h4 hd h5 h6 (by unfold jE; rw [hl]) hlen hdd hM hcat ⟨Nat.zero_le _, Nat.zero_le _⟩ ?_
    intro r0 n0 h0 hp _
    obtain ⟨rfl, rfl, rfl⟩ := hp
    exact k
theorem k_callS {idx np d' : Nat} {M : jMd} {as : List Value} {r : Option Value} (hX : jOk X own cc nL d) (hL : jLS own idx M np) (hd : decode cc pc = .ok (.invokestatic idx, 3)) (hlen : as.length = np) (hdd : d' + 1 ≤ d) (hM : jC X.l X.D X.G d' M as c r c') (hcat : (st.map fun v => v.category).sum ≤ 8) (k : J X 0 0 jN (jE c') lv (r.toList ++ st) (pc + 3)) : J X 0 0 jN (jE c) lv (as.reverse ++ st) pc := by
  obtain ⟨h1, h2, h3⟩ := hL
  refine j_callS hX j_good h1 h2 h3 hd hlen hdd hM hcat ⟨Nat.zero_le _, Nat.zero_le _⟩ ?_
  intro r0 n0 h0 hp _
  obtain ⟨rfl, rfl, rfl⟩ := hp
  exact k
theorem k_callN {idx np d' : Nat} {M : jMd} {as : List Value} {r : Option Value} (hX : jOk X own cc nL d) (hL : jLN own idx M np) (hd : decode cc pc = .ok (.invokestatic idx, 3)) (hlen : as.length = np) (hdd : d' + 1 ≤ d) (hM : jC X.l X.D X.G d' M as c r c') (hcat : (st.map fun v => v.category).sum ≤ 8) (k : J X 0 0 jN (jE c') lv (r.toList ++ st) (pc + 3)) : J X 0 0 jN (jE c) lv (as.reverse ++ st) pc := by
  obtain ⟨h1, ⟨host, h2⟩, h3⟩ := hL
  refine j_callSN hX j_good h1 h2 h3 hd hlen hdd hM hcat ⟨Nat.zero_le _, Nat.zero_le _⟩ ?_
  intro r0 n0 h0 hp _
  obtain ⟨rfl, rfl, rfl⟩ := hp
  exact k
theorem k_callVI {idx np ci p d' : Nat} {M : jMd} {as : List Value} {fl : List (Option Nat)} {v : Int32} (hX : jOk X own cc nL d) (hL : jLV own idx M np ci) (hd : decode cc pc = .ok (.invokevirtual idx, 3)) (hM : jC X.l X.D X.G d' M (.ref p :: as) c (some (.int v)) c') {st0 : List Value} (hst : st0 = as.reverse ++ .ref p :: st) (hl : jLay[p]? = some (.inr (ci, fl))) (hlen : as.length = np) (hdd : d' + 1 ≤ d) (hcat : (st.map fun v => v.category).sum ≤ 8) (k : J X 0 0 jN (jE c') lv (.int v :: st) (pc + 3)) : J X 0 0 jN (jE c) lv st0 pc := hst ▸ k_callV hX hL hd hl hlen hdd hM hcat k
theorem k_callVL {idx np ci p d' : Nat} {M : jMd} {as : List Value} {fl : List (Option Nat)} {v : Int64} (hX : jOk X own cc nL d) (hL : jLV own idx M np ci) (hd : decode cc pc = .ok (.invokevirtual idx, 3)) (hM : jC X.l X.D X.G d' M (.ref p :: as) c (some (.long v)) c') {st0 : List Value} (hst : st0 = as.reverse ++ .ref p :: st) (hl : jLay[p]? = some (.inr (ci, fl))) (hlen : as.length = np) (hdd : d' + 1 ≤ d) (hcat : (st.map fun v => v.category).sum ≤ 8) (k : J X 0 0 jN (jE c') lv (.long v :: st) (pc + 3)) : J X 0 0 jN (jE c) lv st0 pc := hst ▸ k_callV hX hL hd hl hlen hdd hM hcat k
theorem k_callVV {idx np ci p d' : Nat} {M : jMd} {as : List Value} {fl : List (Option Nat)} (hX : jOk X own cc nL d) (hL : jLV own idx M np ci) (hd : decode cc pc = .ok (.invokevirtual idx, 3)) (hM : jC X.l X.D X.G d' M (.ref p :: as) c none c') {st0 : List Value} (hst : st0 = as.reverse ++ .ref p :: st) (hl : jLay[p]? = some (.inr (ci, fl))) (hlen : as.length = np) (hdd : d' + 1 ≤ d) (hcat : (st.map fun v => v.category).sum ≤ 8) (k : J X 0 0 jN (jE c') lv st (pc + 3)) : J X 0 0 jN (jE c) lv st0 pc := hst ▸ k_callV hX hL hd hl hlen hdd hM hcat k
theorem k_callSI {idx np d' : Nat} {M : jMd} {as : List Value} {v : Int32} (hX : jOk X own cc nL d) (hL : jLS own idx M np) (hd : decode cc pc = .ok (.invokestatic idx, 3)) (hM : jC X.l X.D X.G d' M as c (some (.int v)) c') {st0 : List Value} (hst : st0 = as.reverse ++ st) (hlen : as.length = np) (hdd : d' + 1 ≤ d) (hcat : (st.map fun v => v.category).sum ≤ 8) (k : J X 0 0 jN (jE c') lv (.int v :: st) (pc + 3)) : J X 0 0 jN (jE c) lv st0 pc := hst ▸ k_callS hX hL hd hlen hdd hM hcat k
theorem k_callSL {idx np d' : Nat} {M : jMd} {as : List Value} {v : Int64} (hX : jOk X own cc nL d) (hL : jLS own idx M np) (hd : decode cc pc = .ok (.invokestatic idx, 3)) (hM : jC X.l X.D X.G d' M as c (some (.long v)) c') {st0 : List Value} (hst : st0 = as.reverse ++ st) (hlen : as.length = np) (hdd : d' + 1 ≤ d) (hcat : (st.map fun v => v.category).sum ≤ 8) (k : J X 0 0 jN (jE c') lv (.long v :: st) (pc + 3)) : J X 0 0 jN (jE c) lv st0 pc := hst ▸ k_callS hX hL hd hlen hdd hM hcat k
theorem k_callSV {idx np d' : Nat} {M : jMd} {as : List Value} (hX : jOk X own cc nL d) (hL : jLS own idx M np) (hd : decode cc pc = .ok (.invokestatic idx, 3)) (hM : jC X.l X.D X.G d' M as c none c') {st0 : List Value} (hst : st0 = as.reverse ++ st) (hlen : as.length = np) (hdd : d' + 1 ≤ d) (hcat : (st.map fun v => v.category).sum ≤ 8) (k : J X 0 0 jN (jE c') lv st (pc + 3)) : J X 0 0 jN (jE c) lv st0 pc := hst ▸ k_callS hX hL hd hlen hdd hM hcat k
theorem k_callNI {idx np d' : Nat} {M : jMd} {as : List Value} {v : Int32} (hX : jOk X own cc nL d) (hL : jLN own idx M np) (hd : decode cc pc = .ok (.invokestatic idx, 3)) (hM : jC X.l X.D X.G d' M as c (some (.int v)) c') {st0 : List Value} (hst : st0 = as.reverse ++ st) (hlen : as.length = np) (hdd : d' + 1 ≤ d) (hcat : (st.map fun v => v.category).sum ≤ 8) (k : J X 0 0 jN (jE c') lv (.int v :: st) (pc + 3)) : J X 0 0 jN (jE c) lv st0 pc := hst ▸ k_callN hX hL hd hlen hdd hM hcat k
theorem k_callNL {idx np d' : Nat} {M : jMd} {as : List Value} {v : Int64} (hX : jOk X own cc nL d) (hL : jLN own idx M np) (hd : decode cc pc = .ok (.invokestatic idx, 3)) (hM : jC X.l X.D X.G d' M as c (some (.long v)) c') {st0 : List Value} (hst : st0 = as.reverse ++ st) (hlen : as.length = np) (hdd : d' + 1 ≤ d) (hcat : (st.map fun v => v.category).sum ≤ 8) (k : J X 0 0 jN (jE c') lv (.long v :: st) (pc + 3)) : J X 0 0 jN (jE c) lv st0 pc := hst ▸ k_callN hX hL hd hlen hdd hM hcat k
theorem k_callNV {idx np d' : Nat} {M : jMd} {as : List Value} (hX : jOk X own cc nL d) (hL : jLN own idx M np) (hd : decode cc pc = .ok (.invokestatic idx, 3)) (hM : jC X.l X.D X.G d' M as c none c') {st0 : List Value} (hst : st0 = as.reverse ++ st) (hlen : as.length = np) (hdd : d' + 1 ≤ d) (hcat : (st.map fun v => v.category).sum ≤ 8) (k : J X 0 0 jN (jE c') lv st (pc + 3)) : J X 0 0 jN (jE c) lv st0 pc := hst ▸ k_callN hX hL hd hlen hdd hM hcat k
end KC
