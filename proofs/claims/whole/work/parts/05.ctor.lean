theorem iinc_m1 (x : Int32) : x + Int32.ofInt (-1) = x - 1 := by rw [Int32.sub_eq_add_neg]; rfl
def zf : Nat → Int32 := fun _ => 0
def jHl (L : List va_E) : jH := fun i => (L[i]?).getD (.inl (0, 0, .inl zf))
def jfl (v : Int32) : Nat → (Nat → Int32) → (Nat → Int32)
  | 0, f => f
  | k + 1, f => upd (jfl v k f) k v
theorem jHl_at {L : List va_E} {i : Nat} {c : va_E} (h : L[i]? = some c) : jHl L i = c := by unfold jHl; rw [h]; rfl
theorem jHl_set {L : List va_E} {i : Nat} {c : va_E} (hi : i < L.length) : va_up (jHl L) i c = jHl (L.set i c) := by
  funext j
  unfold jHl va_up
  rw [List.getElem?_set]
  by_cases hj : j = i
  · subst hj
    rw [if_pos rfl, if_pos rfl, if_pos hi]; rfl
  · rw [if_neg hj, if_neg (fun e => hj e.symm)]
theorem jHl_push {L : List va_E} {n : Nat} {c : va_E} (hn : L.length = n) : va_up (jHl L) n c = jHl (L ++ [c]) := by
  subst hn
  funext j
  unfold jHl va_up
  by_cases hj : j = L.length
  · subst hj
    rw [if_pos rfl, List.getElem?_append_right (Nat.le_refl _), Nat.sub_self]; rfl
  · rw [if_neg hj]
    by_cases h2 : j < L.length
    · rw [List.getElem?_append_left h2]
    · have e1 : L[j]? = none := List.getElem?_eq_none (by omega)
      have e2 : (L ++ [c])[j]? = none := List.getElem?_eq_none (by rw [List.length_append, List.length_cons, List.length_nil]; omega)
      show (L[j]?).getD _ = ((L ++ [c])[j]?).getD _
      rw [e1, e2]
theorem lt_of_at {α : Type} {L : List α} {i : Nat} {c : α} (h : L[i]? = some c) : i < L.length := (List.getElem?_eq_some_iff.mp h).1
section CT
variable {X : jX} {own : String} {cc : ByteArray} {nL d cells slots n cells' slots' n' : Nat} {L L' : List va_E} {lv : List (Nat × Value)} {st : List Value} {pc : Nat} {h h' : jH}
theorem j_heq (hh : ∀ i, i < n → h i = h' i) (k : J X cells slots n h' lv st pc) : J X cells slots n h lv st pc := by
  intro ad H locs ls q
  have e : jW X.G ad n h = jW X.G ad n h' := by
    unfold jW
    exact List.map_congr_left (fun i hi => by rw [hh i (List.mem_range.mp hi)])
  refine k ad H locs ls ?_
  obtain ⟨q1, q2, q3, q4, q5, q6⟩ := q
  rw [e] at q2
  exact ⟨q1, q2, q3, q4, q5, fun i hi => by rw [← hh i hi]; exact q6 i hi⟩
theorem j_objInit {idx p : Nat} (hX : jOk X own cc nL d) (h1 : Cond.methodLink own idx Lib.objectInit ∈ jTb) (h2 : Cond.instanceMethod Lib.objectInit ∈ jTb) (h3 : Cond.code Lib.objectInit ⟨#[0xb1]⟩ 1 none ∈ jTb) (hd : decode cc pc = .ok (.invokespecial idx, 3)) (hdd : 1 ≤ d) (hcat : (st.map fun v => v.category).sum ≤ 8) (k : J X cells slots n h lv st (pc + 3)) : J X cells slots n h lv (.ref p :: st) pc := by
  intro ad H locs ls q
  have hts := hX.2.2.2.2.1
  have hl := hX.2.2.2.2.2.2.2.2.1
  refine W.objInit (a := ad p) (rest := st.map (jv ad)) hX.1 hX.2.1 hX.2.2.2.1 (hts _ h1) (hts _ h2) (hts _ h3) rfl q.2.2.1.1 rfl hd (Nat.le_trans hdd hX.2.2.2.2.2.2.2.1) ?_ (k ad H locs ls ⟨q.1, q.2.1, q.2.2.1, q.2.2.2.1.2, q.2.2.2.2⟩)
  rw [jv_sum]
  show 2 * 0 + _ + 12 ≤ _
  omega
theorem j_callI {idx np p d' mc ms : Nat} {M : jMd} {as : List Value} {Post : Option Value → Nat → jH → Prop} (hX : jOk X own cc nL d) (hg : jGood) (hL : jLk M np) (hl : Cond.methodLink own idx M.1 ∈ jTb) (hi : Cond.instanceMethod M.1 ∈ jTb) (hy : M.1.name = "<init>") (hr : M.2.2.2 = none) (hd : decode cc pc = .ok (.invokespecial idx, 3)) (hlen : as.length = np) (hdd : d' + 1 ≤ d)
    (hM : jM X.l X.D X.G d' mc ms M (.ref p :: as) n h Post) (hcat : (st.map fun v => v.category).sum ≤ 8) (hc : cells + mc ≤ X.R.cells ∧ slots + ms ≤ X.R.slots)
    (k : ∀ (r : Option Value) (n' : Nat) (h' : jH), Post r n' h' → n ≤ n' → J X (cells + mc) (slots + ms) n' h' lv (r.toList ++ st) (pc + 3)) : J X cells slots n h lv (as.reverse ++ .ref p :: st) pc := by
  intro ad H locs ls q
  have hok := jokl_of_app q.2.2.2.1
  have hp : p < n := hok.2.1
  have has : jokl n as := by have := jokl_rev hok.1; rwa [List.reverse_reverse] at this
  have hts := hX.2.2.2.2.1
  have hcb : CallB X.R X.s X.args own idx M.1 M.2.1 M.2.2.1 M.2.2.2 (jws M) { frames := d', cells := mc, slots := ms, locals := 64 * d' } mc ms np :=
    callB_of np hts (jws_good hg hL) rfl rfl rfl (hts _ hL.2.1) (hts _ hl) hL.2.2.1 (jRoom hX.2.2.2.2.2.2.2.1 hX.2.2.2.2.2.2.2.2.1 hdd hL.2.2.2)
  rw [hr] at hcb
  refine j_behind (st0 := (as.reverse ++ .ref p :: st).map (jv ad)) (a := (Value.ref (ad p) :: as.map (jv ad)).toArray) hX q.1 q.2.1 q.2.2.1 hok.2.2 q.2.2.2.2.1 ?_ k
  refine va_runI (As := as.map (jv ad)) (b := ad p) ⟨hX.1, hX.2.1, hX.2.2.1, hX.2.2.2.1, hts⟩ (hM ad H.size ⟨hp, has⟩ q.2.2.2.2.2) ⟨hcb, hy, hts _ hi⟩ ⟨jPc_blind, fun U hU hW => ⟨rfl, by rw [hU], by rw [hU]; exact q.2.1.1, va_K.moved hW.alike hX.2.2.2.2.2.1, q.2.1.2.1.weaken (fun _ _ _ _ => trivial), jNk.warm hW hX.2.2.2.2.2.2.2.2.2.1⟩⟩ rfl (by rw [List.length_map]; exact hlen) (q.2.2.1.1.trans hX.2.2.1) ?_ (lv_room (by rw [jv_sum]; exact hcat)) hd hc
  show (as.reverse ++ .ref p :: st).map (jv ad) = _
  rw [List.map_append, List.map_reverse]; rfl
theorem c_getf {idx ci k p : Nat} {fs : List Value} (v : Value) (hX : jOk X own cc nL d) (hF : jFld own idx ci k) (hd : decode cc pc = .ok (.getfield idx, 3)) (hl : L[p]? = some (.inr (ci, fs))) (hv : fs[k]? = some v) (kk : J X cells slots n (jHl L) lv (v :: st) (pc + 3)) : J X cells slots n (jHl L) lv (.ref p :: st) pc :=
  j_getf hX hF hd (jHl_at hl) hv kk
theorem c_putf {idx ci k p : Nat} {ty : FieldType} {fs : List Value} {v : Value} (L' : List va_E) (hX : jOk X own cc nL d) (hF : jFldP own idx ci k false ty) (hd : decode cc pc = .ok (.putfield idx, 3)) (hl : L[p]? = some (.inr (ci, fs))) (hk : k < fs.length) (hn : ∀ ad, narrow ty (jv ad v) = jv ad v ∧ fits ty (jv ad v) = true) (hs : L.set p (.inr (ci, fs.set k v)) = L') (kk : J X cells slots n (jHl L') lv st (pc + 3)) : J X cells slots n (jHl L) lv (v :: .ref p :: st) pc :=
  j_putf hX hF hd (jHl_at hl) hk hn (by rw [jHl_set (lt_of_at hl), hs]; exact kk)
theorem c_putF {idx ci k p : Nat} {ty : FieldType} {fs : List Value} {v : Value} (L' : List va_E) (hX : jOk X own cc nL d) (hin : X.meth.name = "<init>") (hF : jFldP own idx ci k true ty) (hd : decode cc pc = .ok (.putfield idx, 3)) (hl : L[p]? = some (.inr (ci, fs))) (hk : k < fs.length) (hn : ∀ ad, narrow ty (jv ad v) = jv ad v ∧ fits ty (jv ad v) = true) (hs : L.set p (.inr (ci, fs.set k v)) = L') (kk : J X cells slots n (jHl L') lv st (pc + 3)) : J X cells slots n (jHl L) lv (v :: .ref p :: st) pc :=
  j_putF hX hin hF hd (jHl_at hl) hk hn (by rw [jHl_set (lt_of_at hl), hs]; exact kk)
theorem c_iast {p len : Nat} {f : Nat → Int32} {i x : Int32} (L' : List va_E) (hX : jOk X own cc nL d) (hd : decode cc pc = .ok (.iastore, 1)) (hl : L[p]? = some (.inl (0, len, .inl f))) (hin : ix i len = true) (hs : L.set p (.inl (0, len, .inl (upd f i.toNatClampNeg x))) = L') (kk : J X cells slots n (jHl L') lv st (pc + 1)) : J X cells slots n (jHl L) lv (.int x :: .int i :: .ref p :: st) pc :=
  j_iast hX hd (jHl_at hl) (ix_in hin) (by rw [jHl_set (lt_of_at hl), hs]; exact kk)
theorem c_newa {t : Nat} {ty : FieldType} {atype : ArrayType} {len : Int32} (N : Nat) (L' : List va_E) (hX : jOk X own cc nL d) (hd : decode cc pc = .ok (.newarray atype, 2)) (hw : Cond.arrayClass (newarray.typeOf atype) ∈ jTb) (hty : newarray.typeOf atype = ty) (ht : ∀ G, (jty G)[t]? = some (G t, ty)) (hs : ty = .int ∨ ty = .byte)
    (hn : ¬ len < 0) (hN : len.toNatClampNeg = N) (hb : N * componentBytes ty ≤ 536870912) (e1 : cells + 1 = cells') (e2 : slots + N = slots') (e3 : n + 1 = n') (h1 : cells' ≤ X.R.cells) (h2 : slots' ≤ X.R.slots) (hl : L.length = n) (he : L ++ [.inl (t, N, .inl zf)] = L')
    (kk : J X cells' slots' n' (jHl L') lv (.ref n :: st) (pc + 2)) : J X cells slots n (jHl L) lv (.int len :: st) pc := by
  subst e1 e2 e3
  exact j_newa hX hd hw hty ht hs hn hN hb h1 h2 (by rw [show (fun _ => (0 : Int32)) = zf from rfl, jHl_push hl, he]; exact kk)
theorem c_new {idx ci N : Nat} {C : String} {T : u_T} {ty : Nat → FieldType} (fs : List Value) (L' : List va_E) (hX : jOk X own cc nL d) (hd : decode cc pc = .ok (.new idx, 3)) (hc : vwCl[ci]? = some (C, T, N)) (hin : ∀ w ∈ u_ws C T N, w ∈ jTb) (hty : ∀ k, k < N → parseFieldDescriptor (T k).2.2.1 = some (ty k)) (hw1 : Cond.classLink own idx C ∈ jTb) (hw2 : Cond.instantiable C N ∈ jTb) (hw3 : Cond.initialized C ∈ jTb)
    (hfs : ∀ j, j < N → defaultValue (ty j) = vp_V fs j) (hok : ∀ ad, fs.map (jv ad) = fs) (hokl : jokl 0 fs) (e1 : cells + 1 = cells') (e2 : slots + N = slots') (e3 : n + 1 = n') (h1 : cells' ≤ X.R.cells) (h2 : slots' ≤ X.R.slots) (hl : L.length = n) (he : L ++ [.inr (ci, fs)] = L') (kk : J X cells' slots' n' (jHl L') lv (.ref n :: st) (pc + 3)) : J X cells slots n (jHl L) lv st pc := by
  subst e1 e2 e3
  exact j_new hX hd hc hin hty hw1 hw2 hw3 hfs hok hokl h1 h2 (by rw [jHl_push hl, he]; exact kk)
def jCt (l : Launch) (D : va_G) (G : Nat → ClassId) (d mc ms : Nat) (M : jMd) (as : List Value) (L L' : List va_E) : Prop :=
  jM l D G d mc ms M as L.length (jHl L) (fun r n' h' => r = none ∧ n' = L'.length ∧ h' = jHl L')
theorem c_call {idx np p d' mc ms : Nat} {M : jMd} {as st0 : List Value} (hX : jOk X own cc nL d) (hL : jLk M np) (hl : Cond.methodLink own idx M.1 ∈ jTb) (hi : Cond.instanceMethod M.1 ∈ jTb) (hy : M.1.name = "<init>") (hr : M.2.2.2 = none) (hd : decode cc pc = .ok (.invokespecial idx, 3)) (hM : jCt X.l X.D X.G d' mc ms M (.ref p :: as) L L') (hst : st0 = as.reverse ++ .ref p :: st) (hlen : as.length = np) (hdd : d' + 1 ≤ d) (hn : L.length = n) (hn' : L'.length = n')
    (hcat : (st.map fun v => v.category).sum ≤ 8) (e1 : cells + mc = cells') (e2 : slots + ms = slots') (h1 : cells' ≤ X.R.cells) (h2 : slots' ≤ X.R.slots) (k : J X cells' slots' n' (jHl L') lv st (pc + 3)) : J X cells slots n (jHl L) lv st0 pc := by
  subst hst hn hn' e1 e2
  refine j_callI hX j_good hL hl hi hy hr hd hlen hdd hM hcat ⟨h1, h2⟩ ?_
  intro r0 n0 h0 hp _
  obtain ⟨rfl, rfl, rfl⟩ := hp
  exact k
end CT
