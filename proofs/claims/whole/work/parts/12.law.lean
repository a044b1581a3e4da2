def jScr (X : jX) (b L : Nat) (xs : Nat → Int32) : Prop := X.raw = [(0, .ref b)] ∧ va_X b L xs X.s X.s.heap ∧ b < X.s.heap.size ∧ ¬ X.A b
section LAW
variable {X : jX} {own : String} {cc : ByteArray} {nL d cells slots n : Nat} {h : jH} {lv : List (Nat × Value)} {st : List Value} {pc : Nat} {b L : Nat} {xs : Nat → Int32}
theorem j_scr {q : Int} {v i x : Int32} (hX : jOk X own cc nL d) (hS : jScr X b L xs) (d0 : decode cc pc = .ok (.aload_n 0, 1)) (d1 : decode cc (pc + 1) = .ok (.iload_n 3, 1)) (d2 : decode cc (pc + 2) = .ok (.iconst q, 1)) (d3 : decode cc (pc + 3) = .ok (.iadd, 1)) (d4 : decode cc (pc + 4) = .ok (.iaload, 1)) (hv : Int32.ofInt q = v) (hg : jg lv 3 = some (.int i)) (hin : vp_in (i + v) L) (hx : xs (i + v).toNatClampNeg = x) (k : J X cells slots n h lv (.int x :: st) (pc + 5)) : J X cells slots n h lv st pc := by
  intro ad H locs ls q0
  obtain ⟨hr, hx1, hb, hA⟩ := hS
  have h0 : ls[0]? = some (.val (.ref b)) := q0.2.2.1.2.2 (0, .ref b) (List.mem_append_left _ (by rw [hr]; exact List.mem_cons_self))
  refine lv_aload_n hX.1 hX.2.1 d0 rfl h0 ?_
  refine lv_iload_n hX.1 hX.2.1 d1 rfl (jg_at q0.2.2.1 hg) ?_
  refine lv_iconst hX.1 hX.2.1 d2 hv ?_
  refine lv_iadd hX.1 hX.2.1 d3 ?_
  refine va_sld hX.1 hX.2.1 hx1 hb hA q0.2.1.2.2 hin d4 ?_
  rw [hx]
  exact k ad H locs ls ⟨q0.1, q0.2.1, q0.2.2.1, ⟨trivial, q0.2.2.2.1⟩, q0.2.2.2.2⟩
theorem j_scr0 {i x : Int32} (hX : jOk X own cc nL d) (hS : jScr X b L xs) (d0 : decode cc pc = .ok (.aload_n 0, 1)) (d1 : decode cc (pc + 1) = .ok (.iload_n 3, 1)) (d4 : decode cc (pc + 2) = .ok (.iaload, 1)) (hg : jg lv 3 = some (.int i)) (hin : vp_in i L) (hx : xs i.toNatClampNeg = x) (k : J X cells slots n h lv (.int x :: st) (pc + 3)) : J X cells slots n h lv st pc := by
  intro ad H locs ls q0
  obtain ⟨hr, hx1, hb, hA⟩ := hS
  have h0 : ls[0]? = some (.val (.ref b)) := q0.2.2.1.2.2 (0, .ref b) (List.mem_append_left _ (by rw [hr]; exact List.mem_cons_self))
  refine lv_aload_n hX.1 hX.2.1 d0 rfl h0 ?_
  refine lv_iload_n hX.1 hX.2.1 d1 rfl (jg_at q0.2.2.1 hg) ?_
  refine va_sld hX.1 hX.2.1 hx1 hb hA q0.2.1.2.2 hin d4 ?_
  rw [hx]
  exact k ad H locs ls ⟨q0.1, q0.2.1, q0.2.2.1, ⟨trivial, q0.2.2.2.1⟩, q0.2.2.2.2⟩
theorem j_slen (hX : jOk X own cc nL d) (hS : jScr X b L xs) (d0 : decode cc pc = .ok (.aload_n 0, 1)) (d1 : decode cc (pc + 1) = .ok (.arraylength, 1)) (k : J X cells slots n h lv (.int (Int32.ofNat L) :: st) (pc + 2)) : J X cells slots n h lv st pc := by
  intro ad H locs ls q0
  obtain ⟨hr, hx1, hb, hA⟩ := hS
  have h0 : ls[0]? = some (.val (.ref b)) := q0.2.2.1.2.2 (0, .ref b) (List.mem_append_left _ (by rw [hr]; exact List.mem_cons_self))
  refine lv_aload_n hX.1 hX.2.1 d0 rfl h0 ?_
  refine va_slen hX.1 hX.2.1 hx1 hb hA q0.2.1.2.2 d1 ?_
  exact k ad H locs ls ⟨q0.1, q0.2.1, q0.2.2.1, ⟨trivial, q0.2.2.2.1⟩, q0.2.2.2.2⟩
theorem k_lawV {idx np ci p d' : Nat} {M : jMd} {as : List Value} {fl : List (Option Nat)} {r : Option Value} {c c' : jS} (hX : jOk X own cc nL d) (hc : cells ≤ X.R.cells ∧ slots ≤ X.R.slots) (hL : jLV own idx M np ci) (hd : decode cc pc = .ok (.invokevirtual idx, 3)) (hM : jC X.l X.D X.G d' M (.ref p :: as) c r c') {st0 : List Value} (hst : st0 = as.reverse ++ .ref p :: st) (hl : jLay[p]? = some (.inr (ci, fl))) (hlen : as.length = np) (hdd : d' + 1 ≤ d) (hcat : (st.map fun v => v.category).sum ≤ 8) (k : J X cells slots jN (jE c') lv (r.toList ++ st) (pc + 3)) : J X cells slots jN (jE c) lv st0 pc := by
  subst hst
  obtain ⟨h1, h2, h3, h4, qc, h5, h6⟩ := hL
  rcases h2 with h2 | ⟨host, h2⟩
  · refine j_callV (fs := jfs (c p) 0 fl) hX j_good h1 h2 h3 h4 hd h5 h6 (by unfold jE; rw [hl]) hlen hdd hM hcat hc ?_
    intro r0 n0 h0 hp _
    obtain ⟨rfl, rfl, rfl⟩ := hp
    exact k
  · refine j_callVN (fs := jfs (c p) 0 fl) hX j_good h1 h2 h3 h4 hd h5 h6 (by unfold jE; rw [hl]) hlen hdd hM hcat hc ?_
    intro r0 n0 h0 hp _
    obtain ⟨rfl, rfl, rfl⟩ := hp
    exact k
theorem k_lawVI {idx np ci p d' : Nat} {M : jMd} {as : List Value} {fl : List (Option Nat)} {v : Int32} {c c' : jS} (hX : jOk X own cc nL d) (hc : cells ≤ X.R.cells ∧ slots ≤ X.R.slots) (hL : jLV own idx M np ci) (hd : decode cc pc = .ok (.invokevirtual idx, 3)) (hM : jC X.l X.D X.G d' M (.ref p :: as) c (some (.int v)) c') {st0 : List Value} (hst : st0 = as.reverse ++ .ref p :: st) (hl : jLay[p]? = some (.inr (ci, fl))) (hlen : as.length = np) (hdd : d' + 1 ≤ d) (hcat : (st.map fun v => v.category).sum ≤ 8) (k : J X cells slots jN (jE c') lv (.int v :: st) (pc + 3)) : J X cells slots jN (jE c) lv st0 pc := k_lawV hX hc hL hd hM hst hl hlen hdd hcat k
theorem k_lawVL {idx np ci p d' : Nat} {M : jMd} {as : List Value} {fl : List (Option Nat)} {v : Int64} {c c' : jS} (hX : jOk X own cc nL d) (hc : cells ≤ X.R.cells ∧ slots ≤ X.R.slots) (hL : jLV own idx M np ci) (hd : decode cc pc = .ok (.invokevirtual idx, 3)) (hM : jC X.l X.D X.G d' M (.ref p :: as) c (some (.long v)) c') {st0 : List Value} (hst : st0 = as.reverse ++ .ref p :: st) (hl : jLay[p]? = some (.inr (ci, fl))) (hlen : as.length = np) (hdd : d' + 1 ≤ d) (hcat : (st.map fun v => v.category).sum ≤ 8) (k : J X cells slots jN (jE c') lv (.long v :: st) (pc + 3)) : J X cells slots jN (jE c) lv st0 pc := k_lawV hX hc hL hd hM hst hl hlen hdd hcat k
end LAW
theorem lg_cmp_self (x : Int64) : lg_cmp x x = 0 := by
  unfold lg_cmp
  rw [if_neg (by simp [Int64.lt_iff_toInt_lt]), if_pos rfl]
theorem scr_x {i k L : Nat} {v : Int32} (hv : v = Int32.ofNat k) (hk : k < 5) (hi : i + 5 ≤ L) (hL : L ≤ 2560) : (Int32.ofNat i + v).toNatClampNeg = i + k := by
  subst hv
  rw [← Int32.ofNat_add]
  exact Int32.toNatClampNeg_ofNat_of_lt (by omega)
theorem scr_in {i k L : Nat} {v : Int32} (hv : v = Int32.ofNat k) (hk : k < 5) (hi : i + 5 ≤ L) (hL : L ≤ 2560) : vp_in (Int32.ofNat i + v) L := by
  have e := scr_x hv hk hi hL
  unfold vp_in
  subst hv
  rw [← Int32.ofNat_add] at *
  intro q
  rcases q with q | q
  · rw [Int32.lt_iff_toInt_lt, ← Int32.ofInt_eq_ofNat, Int32.toInt_ofInt_of_le (by omega) (by omega)] at q
    have : (0 : Int32).toInt = 0 := rfl
    omega
  · omega
theorem nJ_x {i L : Nat} (hi : i + 5 ≤ L) (hL : L ≤ 2560) : (Int32.ofNat i).toNatClampNeg = i := Int32.toNatClampNeg_ofNat_of_lt (by omega)
theorem nJ_in {i L : Nat} (hi : i + 5 ≤ L) (hL : L ≤ 2560) : vp_in (Int32.ofNat i) L := by
  have := scr_in (k := 0) (v := 0) rfl (by decide) hi hL
  rwa [Int32.add_zero] at this

def Op_arrow (Inv : jS → jS → Prop) : Prop := ∀ (c r : jS) (a1 : Int32) (a2 : Int32), Inv c r → ∃ (v : Int32) (c' : jS) (r' : jS), xc_arrow c a1 a2 = some (v, c') ∧ m_arrow r a1 a2 = some (v, r') ∧ Inv c' r'
def Op_side (Inv : jS → jS → Prop) : Prop := ∀ (c r : jS) (a1 : Int32) (a2 : Int32), Inv c r → ∃ (v : Int32), xc_side c a1 a2 = some v ∧ m_side r a1 a2 = some v ∧ Inv c r
def Op_declare (Inv : jS → jS → Prop) : Prop := ∀ (c r : jS) (a1 : Int32) (a2 : Int32), Inv c r → ∃ (v : Int32) (c' : jS) (r' : jS), xc_declare c a1 a2 = some (v, c') ∧ m_declare r a1 a2 = some (v, r') ∧ Inv c' r'
def Op_number (Inv : jS → jS → Prop) : Prop := ∀ (c r : jS) (a1 : Int32), Inv c r → ∃ (v : Int32) (c' : jS) (r' : jS), xc_number c a1 = some (v, c') ∧ m_number r a1 = some (v, r') ∧ Inv c' r'
def Op_name (Inv : jS → jS → Prop) : Prop := ∀ (c r : jS) (a1 : Int32), Inv c r → ∃ (v : Int32) (c' : jS) (r' : jS), xc_name c a1 = some (v, c') ∧ m_name r a1 = some (v, r') ∧ Inv c' r'
def Op_function (Inv : jS → jS → Prop) : Prop := ∀ (c r : jS) (a1 : Int32) (a2 : Int32) (a3 : Int32), Inv c r → ∃ (v : Int32) (c' : jS) (r' : jS), xc_function c a1 a2 a3 = some (v, c') ∧ m_function r a1 a2 a3 = some (v, r') ∧ Inv c' r'
def Op_let (Inv : jS → jS → Prop) : Prop := ∀ (c r : jS) (a1 : Int32) (a2 : Int32) (a3 : Int32), Inv c r → ∃ (v : Int32) (c' : jS) (r' : jS), xc_let c a1 a2 a3 = some (v, c') ∧ m_let r a1 a2 a3 = some (v, r') ∧ Inv c' r'
def Op_join (Inv : jS → jS → Prop) : Prop := ∀ (c r : jS) (a1 : Int32) (a2 : Int32) (a3 : Int32) (a4 : Int32), Inv c r → ∃ (v : Int32) (c' : jS) (r' : jS), xc_join c a1 a2 a3 a4 = some (v, c') ∧ m_join r a1 a2 a3 a4 = some (v, r') ∧ Inv c' r'
def Op_told (Inv : jS → jS → Prop) : Prop := ∀ (c r : jS) (a1 : Int32) (a2 : Int32), Inv c r → ∃ (v : Int64), xc_told c a1 a2 = some v ∧ m_told r a1 a2 = some v ∧ Inv c r
def Op_free (Inv : jS → jS → Prop) : Prop := ∀ (c r : jS) (a1 : Int32), Inv c r → ∃ (v : Int32), xc_free c a1 = some v ∧ m_free r a1 = some v ∧ Inv c r
def Op_uses (Inv : jS → jS → Prop) : Prop := ∀ (c r : jS) (a1 : Int32) (a2 : Int32), Inv c r → ∃ (v : Int32), xc_uses c a1 a2 = some v ∧ m_uses r a1 a2 = some v ∧ Inv c r
def Op_type (Inv : jS → jS → Prop) : Prop := ∀ (c r : jS) (a1 : Int32), Inv c r → ∃ (v : Int32) (c' : jS) (r' : jS), xc_type c a1 = some (v, c') ∧ m_type r a1 = some (v, r') ∧ Inv c' r'
def Op_fault (Inv : jS → jS → Prop) : Prop := ∀ (c r : jS) (a1 : Int32), Inv c r → ∃ (v : Int32), xc_fault c a1 = some v ∧ m_fault r a1 = some v ∧ Inv c r
def Op_alike (Inv : jS → jS → Prop) : Prop := ∀ (c r : jS) (a1 : Int32) (a2 : Int32), Inv c r → ∃ (v : Int32) (c' : jS) (r' : jS), xc_alike c a1 a2 = some (v, c') ∧ m_alike r a1 a2 = some (v, r') ∧ Inv c' r'
def Op_least (Inv : jS → jS → Prop) : Prop := ∀ (c r : jS) (a1 : Int32), Inv c r → ∃ (v : Int32) (c' : jS) (r' : jS), xc_least c a1 = some (v, c') ∧ m_least r a1 = some (v, r') ∧ Inv c' r'
def Op_put (Inv : jS → jS → Prop) : Prop := ∀ (c r : jS) (a1 : Int32) (a2 : Int32) (a3 : Int32), Inv c r → ∃ (v : Int32) (c' : jS) (r' : jS), xc_put c a1 a2 a3 = some (v, c') ∧ m_put r a1 a2 a3 = some (v, r') ∧ Inv c' r'
def Op_step (Inv : jS → jS → Prop) : Prop := ∀ (c r : jS) (a1 : Int32), Inv c r → ∃ (v : Int32) (c' : jS) (r' : jS), xc_step c a1 = some (v, c') ∧ m_step r a1 = some (v, r') ∧ Inv c' r'
def Op_run (Inv : jS → jS → Prop) : Prop := ∀ (c r : jS) (a1 : Int32) (a2 : Int32), Inv c r → ∃ (v : Int32) (c' : jS) (r' : jS), xc_run c a1 a2 = some (v, c') ∧ m_run r a1 a2 = some (v, r') ∧ Inv c' r'
def Op_ran (Inv : jS → jS → Prop) : Prop := ∀ (c r : jS), Inv c r → ∃ (v : Int32), xc_ran c = some v ∧ m_ran r = some v ∧ Inv c r
def Op_drop (Inv : jS → jS → Prop) : Prop := ∀ (c r : jS) (a1 : Int32), Inv c r → ∃ (v : Int32) (c' : jS) (r' : jS), xc_drop c a1 = some (v, c') ∧ m_drop r a1 = some (v, r') ∧ Inv c' r'
def Op_print (Inv : jS → jS → Prop) : Prop := ∀ (c r : jS) (a1 : Int32), Inv c r → ∃ (v : Int32) (c' : jS) (r' : jS), xc_print c a1 = some (v, c') ∧ m_print r a1 = some (v, r') ∧ Inv c' r'
def Op_at (Inv : jS → jS → Prop) : Prop := ∀ (c r : jS) (a1 : Int32), Inv c r → ∃ (v : Int32), xc_at c a1 = some v ∧ m_at r a1 = some v ∧ Inv c r
def Op_feed (Inv : jS → jS → Prop) : Prop := ∀ (c r : jS) (a1 : Int64) (a3 : Int32), Inv c r → ∃ (v : Int32) (c' : jS) (r' : jS), xc_feed c a1 a3 = some (v, c') ∧ m_feed r a1 a3 = some (v, r') ∧ Inv c' r'
def Op_copy (Inv : jS → jS → Prop) : Prop := ∀ (c r : jS), Inv c r → ∃ (v : Int32) (c' : jS) (r' : jS), xc_copy c = some (v, c') ∧ m_copy r = some (v, r') ∧ Inv c' r'
def Op_read (Inv : jS → jS → Prop) : Prop := ∀ (c r : jS), Inv c r → ∃ (v : Int32) (c' : jS) (r' : jS), xc_read c = some (v, c') ∧ m_read r = some (v, r') ∧ Inv c' r'
def Op_count (Inv : jS → jS → Prop) : Prop := ∀ (c r : jS) (a1 : Int32), Inv c r → ∃ (v : Int32), xc_count c a1 = some v ∧ m_count r a1 = some v ∧ Inv c r
def Op_clear (Inv : jS → jS → Prop) : Prop := ∀ (c r : jS), Inv c r → ∃ (v : Int32) (c' : jS) (r' : jS), xc_clear c = some (v, c') ∧ m_clear r = some (v, r') ∧ Inv c' r'
def Ops (Inv : jS → jS → Prop) : Prop := Op_arrow Inv ∧ Op_side Inv ∧ Op_declare Inv ∧ Op_number Inv ∧ Op_name Inv ∧ Op_function Inv ∧ Op_let Inv ∧ Op_join Inv ∧ Op_told Inv ∧ Op_free Inv ∧ Op_uses Inv ∧ Op_type Inv ∧ Op_fault Inv ∧ Op_alike Inv ∧ Op_least Inv ∧ Op_put Inv ∧ Op_step Inv ∧ Op_run Inv ∧ Op_ran Inv ∧ Op_drop Inv ∧ Op_print Inv ∧ Op_at Inv ∧ Op_feed Inv ∧ Op_copy Inv ∧ Op_read Inv ∧ Op_count Inv ∧ Op_clear Inv
theorem lnL_13 : jLV RL 13 M_xc_arrow 2 9 := ⟨lk_xc_arrow, Or.inl (mr_7 _ (List.mem_of_getElem? (i := 18) rfl)), (mr_7 _ (List.mem_of_getElem? (i := 19) rfl)), (mr_7 _ (List.mem_of_getElem? (i := 20) rfl)), _, rfl, rfl⟩
theorem lnL_17 : jLV RL 17 M_m_arrow 2 10 := ⟨lk_m_arrow, Or.inl (mr_8 _ (List.mem_of_getElem? (i := 11) rfl)), (mr_8 _ (List.mem_of_getElem? (i := 12) rfl)), (mr_8 _ (List.mem_of_getElem? (i := 13) rfl)), _, rfl, rfl⟩
theorem lnL_18 : jLV RL 18 M_xc_side 2 9 := ⟨lk_xc_side, Or.inl (mr_9 _ (List.mem_of_getElem? (i := 2) rfl)), (mr_9 _ (List.mem_of_getElem? (i := 3) rfl)), (mr_9 _ (List.mem_of_getElem? (i := 4) rfl)), _, rfl, rfl⟩
theorem lnL_21 : jLV RL 21 M_m_side 2 10 := ⟨lk_m_side, Or.inl (mr_9 _ (List.mem_of_getElem? (i := 14) rfl)), (mr_9 _ (List.mem_of_getElem? (i := 15) rfl)), (mr_9 _ (List.mem_of_getElem? (i := 16) rfl)), _, rfl, rfl⟩
theorem lnL_22 : jLV RL 22 M_xc_declare 2 9 := ⟨lk_xc_declare, Or.inl (mr_9 _ (List.mem_of_getElem? (i := 18) rfl)), (mr_9 _ (List.mem_of_getElem? (i := 19) rfl)), (mr_9 _ (List.mem_of_getElem? (i := 20) rfl)), _, rfl, rfl⟩
theorem lnL_25 : jLV RL 25 M_m_declare 2 10 := ⟨lk_m_declare, Or.inl (mr_10 _ (List.mem_of_getElem? (i := 5) rfl)), (mr_10 _ (List.mem_of_getElem? (i := 6) rfl)), (mr_10 _ (List.mem_of_getElem? (i := 7) rfl)), _, rfl, rfl⟩
theorem lnL_26 : jLV RL 26 M_xc_number 1 9 := ⟨lk_xc_number, Or.inl (mr_10 _ (List.mem_of_getElem? (i := 12) rfl)), (mr_10 _ (List.mem_of_getElem? (i := 13) rfl)), (mr_10 _ (List.mem_of_getElem? (i := 14) rfl)), _, rfl, rfl⟩
theorem lnL_30 : jLV RL 30 M_m_number 1 10 := ⟨lk_m_number, Or.inl (mr_12 _ (List.mem_of_getElem? (i := 13) rfl)), (mr_12 _ (List.mem_of_getElem? (i := 14) rfl)), (mr_12 _ (List.mem_of_getElem? (i := 15) rfl)), _, rfl, rfl⟩
theorem lnL_31 : jLV RL 31 M_xc_name 1 9 := ⟨lk_xc_name, Or.inl (mr_13 _ (List.mem_of_getElem? (i := 9) rfl)), (mr_13 _ (List.mem_of_getElem? (i := 10) rfl)), (mr_13 _ (List.mem_of_getElem? (i := 11) rfl)), _, rfl, rfl⟩
theorem lnL_34 : jLV RL 34 M_m_name 1 10 := ⟨lk_m_name, Or.inl (mr_13 _ (List.mem_of_getElem? (i := 17) rfl)), (mr_13 _ (List.mem_of_getElem? (i := 18) rfl)), (mr_13 _ (List.mem_of_getElem? (i := 19) rfl)), _, rfl, rfl⟩
theorem lnL_35 : jLV RL 35 M_xc_function 3 9 := ⟨lk_xc_function, Or.inl (mr_13 _ (List.mem_of_getElem? (i := 21) rfl)), (mr_13 _ (List.mem_of_getElem? (i := 22) rfl)), (mr_13 _ (List.mem_of_getElem? (i := 23) rfl)), _, rfl, rfl⟩
theorem lnL_39 : jLV RL 39 M_m_function 3 10 := ⟨lk_m_function, Or.inl (mr_14 _ (List.mem_of_getElem? (i := 6) rfl)), (mr_14 _ (List.mem_of_getElem? (i := 7) rfl)), (mr_14 _ (List.mem_of_getElem? (i := 8) rfl)), _, rfl, rfl⟩
theorem lnL_40 : jLV RL 40 M_xc_let 3 9 := ⟨lk_xc_let, Or.inl (mr_14 _ (List.mem_of_getElem? (i := 14) rfl)), (mr_14 _ (List.mem_of_getElem? (i := 15) rfl)), (mr_14 _ (List.mem_of_getElem? (i := 16) rfl)), _, rfl, rfl⟩
theorem lnL_43 : jLV RL 43 M_m_let 3 10 := ⟨lk_m_let, Or.inl (mr_14 _ (List.mem_of_getElem? (i := 22) rfl)), (mr_14 _ (List.mem_of_getElem? (i := 23) rfl)), (mr_15 _ (List.mem_of_getElem? (i := 0) rfl)), _, rfl, rfl⟩
theorem lnL_44 : jLV RL 44 M_xc_join 4 9 := ⟨lk_xc_join, Or.inl (mr_15 _ (List.mem_of_getElem? (i := 2) rfl)), (mr_15 _ (List.mem_of_getElem? (i := 3) rfl)), (mr_15 _ (List.mem_of_getElem? (i := 4) rfl)), _, rfl, rfl⟩
theorem lnL_48 : jLV RL 48 M_m_join 4 10 := ⟨lk_m_join, Or.inl (mr_15 _ (List.mem_of_getElem? (i := 10) rfl)), (mr_15 _ (List.mem_of_getElem? (i := 11) rfl)), (mr_15 _ (List.mem_of_getElem? (i := 12) rfl)), _, rfl, rfl⟩
theorem lnL_49 : jLV RL 49 M_xc_told 2 9 := ⟨lk_xc_told, Or.inl (mr_15 _ (List.mem_of_getElem? (i := 14) rfl)), (mr_15 _ (List.mem_of_getElem? (i := 15) rfl)), (mr_15 _ (List.mem_of_getElem? (i := 16) rfl)), _, rfl, rfl⟩
theorem lnL_53 : jLV RL 53 M_m_told 2 10 := ⟨lk_m_told, Or.inl (mr_17 _ (List.mem_of_getElem? (i := 1) rfl)), (mr_17 _ (List.mem_of_getElem? (i := 2) rfl)), (mr_17 _ (List.mem_of_getElem? (i := 3) rfl)), _, rfl, rfl⟩
theorem lnL_54 : jLV RL 54 M_xc_free 1 9 := ⟨lk_xc_free, Or.inl (mr_17 _ (List.mem_of_getElem? (i := 6) rfl)), (mr_17 _ (List.mem_of_getElem? (i := 7) rfl)), (mr_17 _ (List.mem_of_getElem? (i := 8) rfl)), _, rfl, rfl⟩
theorem lnL_57 : jLV RL 57 M_m_free 1 10 := ⟨lk_m_free, Or.inl (mr_17 _ (List.mem_of_getElem? (i := 11) rfl)), (mr_17 _ (List.mem_of_getElem? (i := 12) rfl)), (mr_17 _ (List.mem_of_getElem? (i := 13) rfl)), _, rfl, rfl⟩
theorem lnL_58 : jLV RL 58 M_xc_uses 2 9 := ⟨lk_xc_uses, Or.inl (mr_17 _ (List.mem_of_getElem? (i := 19) rfl)), (mr_17 _ (List.mem_of_getElem? (i := 20) rfl)), (mr_17 _ (List.mem_of_getElem? (i := 21) rfl)), _, rfl, rfl⟩
theorem lnL_61 : jLV RL 61 M_m_uses 2 10 := ⟨lk_m_uses, Or.inl (mr_18 _ (List.mem_of_getElem? (i := 12) rfl)), (mr_18 _ (List.mem_of_getElem? (i := 13) rfl)), (mr_18 _ (List.mem_of_getElem? (i := 14) rfl)), _, rfl, rfl⟩
theorem lnL_62 : jLV RL 62 M_xc_type 1 9 := ⟨lk_xc_type, Or.inl (mr_18 _ (List.mem_of_getElem? (i := 16) rfl)), (mr_18 _ (List.mem_of_getElem? (i := 17) rfl)), (mr_18 _ (List.mem_of_getElem? (i := 18) rfl)), _, rfl, rfl⟩
theorem lnL_65 : jLV RL 65 M_m_type 1 10 := ⟨lk_m_type, Or.inl (mr_21 _ (List.mem_of_getElem? (i := 17) rfl)), (mr_21 _ (List.mem_of_getElem? (i := 18) rfl)), (mr_21 _ (List.mem_of_getElem? (i := 19) rfl)), _, rfl, rfl⟩
theorem lnL_66 : jLV RL 66 M_xc_fault 1 9 := ⟨lk_xc_fault, Or.inl (mr_23 _ (List.mem_of_getElem? (i := 0) rfl)), (mr_23 _ (List.mem_of_getElem? (i := 1) rfl)), (mr_23 _ (List.mem_of_getElem? (i := 2) rfl)), _, rfl, rfl⟩
theorem lnL_69 : jLV RL 69 M_m_fault 1 10 := ⟨lk_m_fault, Or.inl (mr_23 _ (List.mem_of_getElem? (i := 12) rfl)), (mr_23 _ (List.mem_of_getElem? (i := 13) rfl)), (mr_23 _ (List.mem_of_getElem? (i := 14) rfl)), _, rfl, rfl⟩
theorem lnL_70 : jLV RL 70 M_xc_alike 2 9 := ⟨lk_xc_alike, Or.inl (mr_23 _ (List.mem_of_getElem? (i := 16) rfl)), (mr_23 _ (List.mem_of_getElem? (i := 17) rfl)), (mr_23 _ (List.mem_of_getElem? (i := 18) rfl)), _, rfl, rfl⟩
theorem lnL_73 : jLV RL 73 M_m_alike 2 10 := ⟨lk_m_alike, Or.inl (mr_24 _ (List.mem_of_getElem? (i := 20) rfl)), (mr_24 _ (List.mem_of_getElem? (i := 21) rfl)), (mr_24 _ (List.mem_of_getElem? (i := 22) rfl)), _, rfl, rfl⟩
theorem lnL_74 : jLV RL 74 M_xc_least 1 9 := ⟨lk_xc_least, Or.inl (mr_25 _ (List.mem_of_getElem? (i := 9) rfl)), (mr_25 _ (List.mem_of_getElem? (i := 10) rfl)), (mr_25 _ (List.mem_of_getElem? (i := 11) rfl)), _, rfl, rfl⟩
theorem lnL_77 : jLV RL 77 M_m_least 1 10 := ⟨lk_m_least, Or.inl (mr_25 _ (List.mem_of_getElem? (i := 13) rfl)), (mr_25 _ (List.mem_of_getElem? (i := 14) rfl)), (mr_25 _ (List.mem_of_getElem? (i := 15) rfl)), _, rfl, rfl⟩
theorem lnL_78 : jLV RL 78 M_xc_put 3 9 := ⟨lk_xc_put, Or.inl (mr_25 _ (List.mem_of_getElem? (i := 17) rfl)), (mr_25 _ (List.mem_of_getElem? (i := 18) rfl)), (mr_25 _ (List.mem_of_getElem? (i := 19) rfl)), _, rfl, rfl⟩
theorem lnL_81 : jLV RL 81 M_m_put 3 10 := ⟨lk_m_put, Or.inl (mr_27 _ (List.mem_of_getElem? (i := 21) rfl)), (mr_27 _ (List.mem_of_getElem? (i := 22) rfl)), (mr_27 _ (List.mem_of_getElem? (i := 23) rfl)), _, rfl, rfl⟩
theorem lnL_82 : jLV RL 82 M_xc_step 1 9 := ⟨lk_xc_step, Or.inl (mr_29 _ (List.mem_of_getElem? (i := 5) rfl)), (mr_29 _ (List.mem_of_getElem? (i := 6) rfl)), (mr_29 _ (List.mem_of_getElem? (i := 7) rfl)), _, rfl, rfl⟩
theorem lnL_85 : jLV RL 85 M_m_step 1 10 := ⟨lk_m_step, Or.inl (mr_30 _ (List.mem_of_getElem? (i := 13) rfl)), (mr_30 _ (List.mem_of_getElem? (i := 14) rfl)), (mr_30 _ (List.mem_of_getElem? (i := 15) rfl)), _, rfl, rfl⟩
theorem lnL_86 : jLV RL 86 M_xc_run 2 9 := ⟨lk_xc_run, Or.inl (mr_31 _ (List.mem_of_getElem? (i := 5) rfl)), (mr_31 _ (List.mem_of_getElem? (i := 6) rfl)), (mr_31 _ (List.mem_of_getElem? (i := 7) rfl)), _, rfl, rfl⟩
theorem lnL_89 : jLV RL 89 M_m_run 2 10 := ⟨lk_m_run, Or.inl (mr_31 _ (List.mem_of_getElem? (i := 9) rfl)), (mr_31 _ (List.mem_of_getElem? (i := 10) rfl)), (mr_31 _ (List.mem_of_getElem? (i := 11) rfl)), _, rfl, rfl⟩
theorem lnL_90 : jLV RL 90 M_xc_ran 0 9 := ⟨lk_xc_ran, Or.inl (mr_31 _ (List.mem_of_getElem? (i := 14) rfl)), (mr_31 _ (List.mem_of_getElem? (i := 15) rfl)), (mr_31 _ (List.mem_of_getElem? (i := 16) rfl)), _, rfl, rfl⟩
theorem lnL_94 : jLV RL 94 M_m_ran 0 10 := ⟨lk_m_ran, Or.inl (mr_31 _ (List.mem_of_getElem? (i := 18) rfl)), (mr_31 _ (List.mem_of_getElem? (i := 19) rfl)), (mr_31 _ (List.mem_of_getElem? (i := 20) rfl)), _, rfl, rfl⟩
theorem lnL_95 : jLV RL 95 M_xc_drop 1 9 := ⟨lk_xc_drop, Or.inl (mr_31 _ (List.mem_of_getElem? (i := 22) rfl)), (mr_31 _ (List.mem_of_getElem? (i := 23) rfl)), (mr_32 _ (List.mem_of_getElem? (i := 0) rfl)), _, rfl, rfl⟩
theorem lnL_98 : jLV RL 98 M_m_drop 1 10 := ⟨lk_m_drop, Or.inl (mr_32 _ (List.mem_of_getElem? (i := 14) rfl)), (mr_32 _ (List.mem_of_getElem? (i := 15) rfl)), (mr_32 _ (List.mem_of_getElem? (i := 16) rfl)), _, rfl, rfl⟩
theorem lnL_99 : jLV RL 99 M_xc_print 1 9 := ⟨lk_xc_print, Or.inl (mr_32 _ (List.mem_of_getElem? (i := 22) rfl)), (mr_32 _ (List.mem_of_getElem? (i := 23) rfl)), (mr_33 _ (List.mem_of_getElem? (i := 0) rfl)), _, rfl, rfl⟩
theorem lnL_102 : jLV RL 102 M_m_print 1 10 := ⟨lk_m_print, Or.inl (mr_35 _ (List.mem_of_getElem? (i := 10) rfl)), (mr_35 _ (List.mem_of_getElem? (i := 11) rfl)), (mr_35 _ (List.mem_of_getElem? (i := 12) rfl)), _, rfl, rfl⟩
theorem lnL_103 : jLV RL 103 M_xc_at 1 9 := ⟨lk_xc_at, Or.inl (mr_36 _ (List.mem_of_getElem? (i := 11) rfl)), (mr_36 _ (List.mem_of_getElem? (i := 12) rfl)), (mr_36 _ (List.mem_of_getElem? (i := 13) rfl)), _, rfl, rfl⟩
theorem lnL_106 : jLV RL 106 M_m_at 1 10 := ⟨lk_m_at, Or.inl (mr_36 _ (List.mem_of_getElem? (i := 19) rfl)), (mr_36 _ (List.mem_of_getElem? (i := 20) rfl)), (mr_36 _ (List.mem_of_getElem? (i := 21) rfl)), _, rfl, rfl⟩
theorem lnL_109 : jLV RL 109 M_xc_feed 2 9 := ⟨lk_xc_feed, Or.inl (mr_36 _ (List.mem_of_getElem? (i := 23) rfl)), (mr_37 _ (List.mem_of_getElem? (i := 0) rfl)), (mr_37 _ (List.mem_of_getElem? (i := 1) rfl)), _, rfl, rfl⟩
theorem lnL_113 : jLV RL 113 M_m_feed 2 10 := ⟨lk_m_feed, Or.inl (mr_37 _ (List.mem_of_getElem? (i := 11) rfl)), (mr_37 _ (List.mem_of_getElem? (i := 12) rfl)), (mr_37 _ (List.mem_of_getElem? (i := 13) rfl)), _, rfl, rfl⟩
theorem lnL_114 : jLV RL 114 M_xc_copy 0 9 := ⟨lk_xc_copy, Or.inl (mr_37 _ (List.mem_of_getElem? (i := 16) rfl)), (mr_37 _ (List.mem_of_getElem? (i := 17) rfl)), (mr_37 _ (List.mem_of_getElem? (i := 18) rfl)), _, rfl, rfl⟩
theorem lnL_117 : jLV RL 117 M_m_copy 0 10 := ⟨lk_m_copy, Or.inl (mr_38 _ (List.mem_of_getElem? (i := 5) rfl)), (mr_38 _ (List.mem_of_getElem? (i := 6) rfl)), (mr_38 _ (List.mem_of_getElem? (i := 7) rfl)), _, rfl, rfl⟩
theorem lnL_118 : jLV RL 118 M_xc_read 0 9 := ⟨lk_xc_read, Or.inl (mr_38 _ (List.mem_of_getElem? (i := 9) rfl)), (mr_38 _ (List.mem_of_getElem? (i := 10) rfl)), (mr_38 _ (List.mem_of_getElem? (i := 11) rfl)), _, rfl, rfl⟩
theorem lnL_121 : jLV RL 121 M_m_read 0 10 := ⟨lk_m_read, Or.inl (mr_41 _ (List.mem_of_getElem? (i := 21) rfl)), (mr_41 _ (List.mem_of_getElem? (i := 22) rfl)), (mr_41 _ (List.mem_of_getElem? (i := 23) rfl)), _, rfl, rfl⟩
theorem lnL_122 : jLV RL 122 M_xc_count 1 9 := ⟨lk_xc_count, Or.inl (mr_43 _ (List.mem_of_getElem? (i := 17) rfl)), (mr_43 _ (List.mem_of_getElem? (i := 18) rfl)), (mr_43 _ (List.mem_of_getElem? (i := 19) rfl)), _, rfl, rfl⟩
theorem lnL_125 : jLV RL 125 M_m_count 1 10 := ⟨lk_m_count, Or.inl (mr_44 _ (List.mem_of_getElem? (i := 3) rfl)), (mr_44 _ (List.mem_of_getElem? (i := 4) rfl)), (mr_44 _ (List.mem_of_getElem? (i := 5) rfl)), _, rfl, rfl⟩
theorem lnL_126 : jLV RL 126 M_xc_clear 0 9 := ⟨lk_xc_clear, Or.inl (mr_44 _ (List.mem_of_getElem? (i := 7) rfl)), (mr_44 _ (List.mem_of_getElem? (i := 8) rfl)), (mr_44 _ (List.mem_of_getElem? (i := 9) rfl)), _, rfl, rfl⟩
theorem lnL_129 : jLV RL 129 M_m_clear 0 10 := ⟨lk_m_clear, Or.inl (mr_44 _ (List.mem_of_getElem? (i := 11) rfl)), (mr_44 _ (List.mem_of_getElem? (i := 12) rfl)), (mr_44 _ (List.mem_of_getElem? (i := 13) rfl)), _, rfl, rfl⟩
set_option maxHeartbeats 4000000 in
set_option maxRecDepth 100000 in
theorem lc_arrow {X : jX} {b L i : Nat} {xs : Nat → Int32} {Inv : jS → jS → Prop} (hX : jOk X RL cL_law 4 300) (hS : jScr X b L xs) (hcl : 60 ≤ X.R.cells ∧ 32940 ≤ X.R.slots) (hi : i + 5 ≤ L) (hL : L ≤ 2560) (ho : Op_arrow Inv) {c r : jS} (hI : Inv c r) (nx : ∀ c' r', Inv c' r' → J X 60 32940 jN (jE (jmix c' r')) [(1, .ref 0), (2, .ref 30), (3, .int (Int32.ofNat i))] [] 938) : J X 60 32940 jN (jE (jmix c r)) [(1, .ref 0), (2, .ref 30), (3, .int (Int32.ofNat i))] [] 156 := by
  obtain ⟨v, c', r', h1, h2, h3⟩ := ho c r (xs (i + 1)) (xs (i + 2)) hI
  refine j_aload_n (pc := 156) hX dL_law_156 rfl rfl ?_
  refine j_scr (pc := 157) (v := 1) (x := xs (i + 1)) hX hS dL_law_157 dL_law_158 dL_law_159 dL_law_160 dL_law_161 (by decide) rfl (scr_in (k := 1) (by decide) (by decide) hi hL) (by rw [scr_x (k := 1) (by decide) (by decide) hi hL]) ?_
  refine j_scr (pc := 162) (v := 2) (x := xs (i + 2)) hX hS dL_law_162 dL_law_163 dL_law_164 dL_law_165 dL_law_166 (by decide) rfl (scr_in (k := 2) (by decide) (by decide) hi hL) (by rw [scr_x (k := 2) (by decide) (by decide) hi hL]) ?_
  refine k_lawVI (pc := 167) (st := []) hX hcl lnL_13 dL_law_167 (t_xc_arrow (d := 3) (Nat.le_refl _) h1) rfl rfl rfl (by decide) (Nat.le_of_ble_eq_true rfl) ?_
  refine j_aload_n (pc := 170) hX dL_law_170 rfl rfl ?_
  refine j_scr (pc := 171) (v := 1) (x := xs (i + 1)) hX hS dL_law_171 dL_law_172 dL_law_173 dL_law_174 dL_law_175 (by decide) rfl (scr_in (k := 1) (by decide) (by decide) hi hL) (by rw [scr_x (k := 1) (by decide) (by decide) hi hL]) ?_
  refine j_scr (pc := 176) (v := 2) (x := xs (i + 2)) hX hS dL_law_176 dL_law_177 dL_law_178 dL_law_179 dL_law_180 (by decide) rfl (scr_in (k := 2) (by decide) (by decide) hi hL) (by rw [scr_x (k := 2) (by decide) (by decide) hi hL]) ?_
  refine k_lawVI (pc := 181) (st := [.int v]) hX hcl lnL_17 dL_law_181 (t_m_arrow (d := 2) (Nat.le_refl _) h2) rfl rfl rfl (by decide) (Nat.le_of_ble_eq_true rfl) ?_
  exact j_icmp_eq (pc := 184) (tgt := 938) hX dL_law_184 (by decide) (fun _ => nx _ _ h3) (fun z => absurd rfl z)
set_option maxHeartbeats 4000000 in
set_option maxRecDepth 100000 in
theorem lc_side {X : jX} {b L i : Nat} {xs : Nat → Int32} {Inv : jS → jS → Prop} (hX : jOk X RL cL_law 4 300) (hS : jScr X b L xs) (hcl : 60 ≤ X.R.cells ∧ 32940 ≤ X.R.slots) (hi : i + 5 ≤ L) (hL : L ≤ 2560) (ho : Op_side Inv) {c r : jS} (hI : Inv c r) (nx : ∀ c' r', Inv c' r' → J X 60 32940 jN (jE (jmix c' r')) [(1, .ref 0), (2, .ref 30), (3, .int (Int32.ofNat i))] [] 938) : J X 60 32940 jN (jE (jmix c r)) [(1, .ref 0), (2, .ref 30), (3, .int (Int32.ofNat i))] [] 189 := by
  obtain ⟨v, h1, h2, h3⟩ := ho c r (xs (i + 1)) (xs (i + 2)) hI
  refine j_aload_n (pc := 189) hX dL_law_189 rfl rfl ?_
  refine j_scr (pc := 190) (v := 1) (x := xs (i + 1)) hX hS dL_law_190 dL_law_191 dL_law_192 dL_law_193 dL_law_194 (by decide) rfl (scr_in (k := 1) (by decide) (by decide) hi hL) (by rw [scr_x (k := 1) (by decide) (by decide) hi hL]) ?_
  refine j_scr (pc := 195) (v := 2) (x := xs (i + 2)) hX hS dL_law_195 dL_law_196 dL_law_197 dL_law_198 dL_law_199 (by decide) rfl (scr_in (k := 2) (by decide) (by decide) hi hL) (by rw [scr_x (k := 2) (by decide) (by decide) hi hL]) ?_
  refine k_lawVI (pc := 200) (st := []) hX hcl lnL_18 dL_law_200 (t_xc_side (d := 2) (Nat.le_refl _) h1) rfl rfl rfl (by decide) (Nat.le_of_ble_eq_true rfl) ?_
  refine j_aload_n (pc := 203) hX dL_law_203 rfl rfl ?_
  refine j_scr (pc := 204) (v := 1) (x := xs (i + 1)) hX hS dL_law_204 dL_law_205 dL_law_206 dL_law_207 dL_law_208 (by decide) rfl (scr_in (k := 1) (by decide) (by decide) hi hL) (by rw [scr_x (k := 1) (by decide) (by decide) hi hL]) ?_
  refine j_scr (pc := 209) (v := 2) (x := xs (i + 2)) hX hS dL_law_209 dL_law_210 dL_law_211 dL_law_212 dL_law_213 (by decide) rfl (scr_in (k := 2) (by decide) (by decide) hi hL) (by rw [scr_x (k := 2) (by decide) (by decide) hi hL]) ?_
  refine k_lawVI (pc := 214) (st := [.int v]) hX hcl lnL_21 dL_law_214 (t_m_side (d := 2) (Nat.le_refl _) h2) rfl rfl rfl (by decide) (Nat.le_of_ble_eq_true rfl) ?_
  exact j_icmp_eq (pc := 217) (tgt := 938) hX dL_law_217 (by decide) (fun _ => nx _ _ h3) (fun z => absurd rfl z)
set_option maxHeartbeats 4000000 in
set_option maxRecDepth 100000 in
theorem lc_declare {X : jX} {b L i : Nat} {xs : Nat → Int32} {Inv : jS → jS → Prop} (hX : jOk X RL cL_law 4 300) (hS : jScr X b L xs) (hcl : 60 ≤ X.R.cells ∧ 32940 ≤ X.R.slots) (hi : i + 5 ≤ L) (hL : L ≤ 2560) (ho : Op_declare Inv) {c r : jS} (hI : Inv c r) (nx : ∀ c' r', Inv c' r' → J X 60 32940 jN (jE (jmix c' r')) [(1, .ref 0), (2, .ref 30), (3, .int (Int32.ofNat i))] [] 938) : J X 60 32940 jN (jE (jmix c r)) [(1, .ref 0), (2, .ref 30), (3, .int (Int32.ofNat i))] [] 222 := by
  obtain ⟨v, c', r', h1, h2, h3⟩ := ho c r (xs (i + 1)) (xs (i + 2)) hI
  refine j_aload_n (pc := 222) hX dL_law_222 rfl rfl ?_
  refine j_scr (pc := 223) (v := 1) (x := xs (i + 1)) hX hS dL_law_223 dL_law_224 dL_law_225 dL_law_226 dL_law_227 (by decide) rfl (scr_in (k := 1) (by decide) (by decide) hi hL) (by rw [scr_x (k := 1) (by decide) (by decide) hi hL]) ?_
  refine j_scr (pc := 228) (v := 2) (x := xs (i + 2)) hX hS dL_law_228 dL_law_229 dL_law_230 dL_law_231 dL_law_232 (by decide) rfl (scr_in (k := 2) (by decide) (by decide) hi hL) (by rw [scr_x (k := 2) (by decide) (by decide) hi hL]) ?_
  refine k_lawVI (pc := 233) (st := []) hX hcl lnL_22 dL_law_233 (t_xc_declare (d := 2) (Nat.le_refl _) h1) rfl rfl rfl (by decide) (Nat.le_of_ble_eq_true rfl) ?_
  refine j_aload_n (pc := 236) hX dL_law_236 rfl rfl ?_
  refine j_scr (pc := 237) (v := 1) (x := xs (i + 1)) hX hS dL_law_237 dL_law_238 dL_law_239 dL_law_240 dL_law_241 (by decide) rfl (scr_in (k := 1) (by decide) (by decide) hi hL) (by rw [scr_x (k := 1) (by decide) (by decide) hi hL]) ?_
  refine j_scr (pc := 242) (v := 2) (x := xs (i + 2)) hX hS dL_law_242 dL_law_243 dL_law_244 dL_law_245 dL_law_246 (by decide) rfl (scr_in (k := 2) (by decide) (by decide) hi hL) (by rw [scr_x (k := 2) (by decide) (by decide) hi hL]) ?_
  refine k_lawVI (pc := 247) (st := [.int v]) hX hcl lnL_25 dL_law_247 (t_m_declare (d := 2) (Nat.le_refl _) h2) rfl rfl rfl (by decide) (Nat.le_of_ble_eq_true rfl) ?_
  exact j_icmp_eq (pc := 250) (tgt := 938) hX dL_law_250 (by decide) (fun _ => nx _ _ h3) (fun z => absurd rfl z)
set_option maxHeartbeats 4000000 in
set_option maxRecDepth 100000 in
theorem lc_number {X : jX} {b L i : Nat} {xs : Nat → Int32} {Inv : jS → jS → Prop} (hX : jOk X RL cL_law 4 300) (hS : jScr X b L xs) (hcl : 60 ≤ X.R.cells ∧ 32940 ≤ X.R.slots) (hi : i + 5 ≤ L) (hL : L ≤ 2560) (ho : Op_number Inv) {c r : jS} (hI : Inv c r) (nx : ∀ c' r', Inv c' r' → J X 60 32940 jN (jE (jmix c' r')) [(1, .ref 0), (2, .ref 30), (3, .int (Int32.ofNat i))] [] 938) : J X 60 32940 jN (jE (jmix c r)) [(1, .ref 0), (2, .ref 30), (3, .int (Int32.ofNat i))] [] 255 := by
  obtain ⟨v, c', r', h1, h2, h3⟩ := ho c r (xs (i + 1)) hI
  refine j_aload_n (pc := 255) hX dL_law_255 rfl rfl ?_
  refine j_scr (pc := 256) (v := 1) (x := xs (i + 1)) hX hS dL_law_256 dL_law_257 dL_law_258 dL_law_259 dL_law_260 (by decide) rfl (scr_in (k := 1) (by decide) (by decide) hi hL) (by rw [scr_x (k := 1) (by decide) (by decide) hi hL]) ?_
  refine k_lawVI (pc := 261) (st := []) hX hcl lnL_26 dL_law_261 (t_xc_number (d := 4) (Nat.le_refl _) h1) rfl rfl rfl (by decide) (Nat.le_of_ble_eq_true rfl) ?_
  refine j_aload_n (pc := 264) hX dL_law_264 rfl rfl ?_
  refine j_scr (pc := 265) (v := 1) (x := xs (i + 1)) hX hS dL_law_265 dL_law_266 dL_law_267 dL_law_268 dL_law_269 (by decide) rfl (scr_in (k := 1) (by decide) (by decide) hi hL) (by rw [scr_x (k := 1) (by decide) (by decide) hi hL]) ?_
  refine k_lawVI (pc := 270) (st := [.int v]) hX hcl lnL_30 dL_law_270 (t_m_number (d := 2) (Nat.le_refl _) h2) rfl rfl rfl (by decide) (Nat.le_of_ble_eq_true rfl) ?_
  exact j_icmp_eq (pc := 273) (tgt := 938) hX dL_law_273 (by decide) (fun _ => nx _ _ h3) (fun z => absurd rfl z)
set_option maxHeartbeats 4000000 in
set_option maxRecDepth 100000 in
theorem lc_name {X : jX} {b L i : Nat} {xs : Nat → Int32} {Inv : jS → jS → Prop} (hX : jOk X RL cL_law 4 300) (hS : jScr X b L xs) (hcl : 60 ≤ X.R.cells ∧ 32940 ≤ X.R.slots) (hi : i + 5 ≤ L) (hL : L ≤ 2560) (ho : Op_name Inv) {c r : jS} (hI : Inv c r) (nx : ∀ c' r', Inv c' r' → J X 60 32940 jN (jE (jmix c' r')) [(1, .ref 0), (2, .ref 30), (3, .int (Int32.ofNat i))] [] 938) : J X 60 32940 jN (jE (jmix c r)) [(1, .ref 0), (2, .ref 30), (3, .int (Int32.ofNat i))] [] 278 := by
  obtain ⟨v, c', r', h1, h2, h3⟩ := ho c r (xs (i + 1)) hI
  refine j_aload_n (pc := 278) hX dL_law_278 rfl rfl ?_
  refine j_scr (pc := 279) (v := 1) (x := xs (i + 1)) hX hS dL_law_279 dL_law_280 dL_law_281 dL_law_282 dL_law_283 (by decide) rfl (scr_in (k := 1) (by decide) (by decide) hi hL) (by rw [scr_x (k := 1) (by decide) (by decide) hi hL]) ?_
  refine k_lawVI (pc := 284) (st := []) hX hcl lnL_31 dL_law_284 (t_xc_name (d := 4) (Nat.le_refl _) h1) rfl rfl rfl (by decide) (Nat.le_of_ble_eq_true rfl) ?_
  refine j_aload_n (pc := 287) hX dL_law_287 rfl rfl ?_
  refine j_scr (pc := 288) (v := 1) (x := xs (i + 1)) hX hS dL_law_288 dL_law_289 dL_law_290 dL_law_291 dL_law_292 (by decide) rfl (scr_in (k := 1) (by decide) (by decide) hi hL) (by rw [scr_x (k := 1) (by decide) (by decide) hi hL]) ?_
  refine k_lawVI (pc := 293) (st := [.int v]) hX hcl lnL_34 dL_law_293 (t_m_name (d := 2) (Nat.le_refl _) h2) rfl rfl rfl (by decide) (Nat.le_of_ble_eq_true rfl) ?_
  exact j_icmp_eq (pc := 296) (tgt := 938) hX dL_law_296 (by decide) (fun _ => nx _ _ h3) (fun z => absurd rfl z)
set_option maxHeartbeats 4000000 in
set_option maxRecDepth 100000 in
theorem lc_function {X : jX} {b L i : Nat} {xs : Nat → Int32} {Inv : jS → jS → Prop} (hX : jOk X RL cL_law 4 300) (hS : jScr X b L xs) (hcl : 60 ≤ X.R.cells ∧ 32940 ≤ X.R.slots) (hi : i + 5 ≤ L) (hL : L ≤ 2560) (ho : Op_function Inv) {c r : jS} (hI : Inv c r) (nx : ∀ c' r', Inv c' r' → J X 60 32940 jN (jE (jmix c' r')) [(1, .ref 0), (2, .ref 30), (3, .int (Int32.ofNat i))] [] 938) : J X 60 32940 jN (jE (jmix c r)) [(1, .ref 0), (2, .ref 30), (3, .int (Int32.ofNat i))] [] 301 := by
  obtain ⟨v, c', r', h1, h2, h3⟩ := ho c r (xs (i + 1)) (xs (i + 2)) (xs (i + 3)) hI
  refine j_aload_n (pc := 301) hX dL_law_301 rfl rfl ?_
  refine j_scr (pc := 302) (v := 1) (x := xs (i + 1)) hX hS dL_law_302 dL_law_303 dL_law_304 dL_law_305 dL_law_306 (by decide) rfl (scr_in (k := 1) (by decide) (by decide) hi hL) (by rw [scr_x (k := 1) (by decide) (by decide) hi hL]) ?_
  refine j_scr (pc := 307) (v := 2) (x := xs (i + 2)) hX hS dL_law_307 dL_law_308 dL_law_309 dL_law_310 dL_law_311 (by decide) rfl (scr_in (k := 2) (by decide) (by decide) hi hL) (by rw [scr_x (k := 2) (by decide) (by decide) hi hL]) ?_
  refine j_scr (pc := 312) (v := 3) (x := xs (i + 3)) hX hS dL_law_312 dL_law_313 dL_law_314 dL_law_315 dL_law_316 (by decide) rfl (scr_in (k := 3) (by decide) (by decide) hi hL) (by rw [scr_x (k := 3) (by decide) (by decide) hi hL]) ?_
  refine k_lawVI (pc := 317) (st := []) hX hcl lnL_35 dL_law_317 (t_xc_function (d := 4) (Nat.le_refl _) h1) rfl rfl rfl (by decide) (Nat.le_of_ble_eq_true rfl) ?_
  refine j_aload_n (pc := 320) hX dL_law_320 rfl rfl ?_
  refine j_scr (pc := 321) (v := 1) (x := xs (i + 1)) hX hS dL_law_321 dL_law_322 dL_law_323 dL_law_324 dL_law_325 (by decide) rfl (scr_in (k := 1) (by decide) (by decide) hi hL) (by rw [scr_x (k := 1) (by decide) (by decide) hi hL]) ?_
  refine j_scr (pc := 326) (v := 2) (x := xs (i + 2)) hX hS dL_law_326 dL_law_327 dL_law_328 dL_law_329 dL_law_330 (by decide) rfl (scr_in (k := 2) (by decide) (by decide) hi hL) (by rw [scr_x (k := 2) (by decide) (by decide) hi hL]) ?_
  refine j_scr (pc := 331) (v := 3) (x := xs (i + 3)) hX hS dL_law_331 dL_law_332 dL_law_333 dL_law_334 dL_law_335 (by decide) rfl (scr_in (k := 3) (by decide) (by decide) hi hL) (by rw [scr_x (k := 3) (by decide) (by decide) hi hL]) ?_
  refine k_lawVI (pc := 336) (st := [.int v]) hX hcl lnL_39 dL_law_336 (t_m_function (d := 2) (Nat.le_refl _) h2) rfl rfl rfl (by decide) (Nat.le_of_ble_eq_true rfl) ?_
  exact j_icmp_eq (pc := 339) (tgt := 938) hX dL_law_339 (by decide) (fun _ => nx _ _ h3) (fun z => absurd rfl z)
set_option maxHeartbeats 4000000 in
set_option maxRecDepth 100000 in
theorem lc_let {X : jX} {b L i : Nat} {xs : Nat → Int32} {Inv : jS → jS → Prop} (hX : jOk X RL cL_law 4 300) (hS : jScr X b L xs) (hcl : 60 ≤ X.R.cells ∧ 32940 ≤ X.R.slots) (hi : i + 5 ≤ L) (hL : L ≤ 2560) (ho : Op_let Inv) {c r : jS} (hI : Inv c r) (nx : ∀ c' r', Inv c' r' → J X 60 32940 jN (jE (jmix c' r')) [(1, .ref 0), (2, .ref 30), (3, .int (Int32.ofNat i))] [] 938) : J X 60 32940 jN (jE (jmix c r)) [(1, .ref 0), (2, .ref 30), (3, .int (Int32.ofNat i))] [] 344 := by
  obtain ⟨v, c', r', h1, h2, h3⟩ := ho c r (xs (i + 1)) (xs (i + 2)) (xs (i + 3)) hI
  refine j_aload_n (pc := 344) hX dL_law_344 rfl rfl ?_
  refine j_scr (pc := 345) (v := 1) (x := xs (i + 1)) hX hS dL_law_345 dL_law_346 dL_law_347 dL_law_348 dL_law_349 (by decide) rfl (scr_in (k := 1) (by decide) (by decide) hi hL) (by rw [scr_x (k := 1) (by decide) (by decide) hi hL]) ?_
  refine j_scr (pc := 350) (v := 2) (x := xs (i + 2)) hX hS dL_law_350 dL_law_351 dL_law_352 dL_law_353 dL_law_354 (by decide) rfl (scr_in (k := 2) (by decide) (by decide) hi hL) (by rw [scr_x (k := 2) (by decide) (by decide) hi hL]) ?_
  refine j_scr (pc := 355) (v := 3) (x := xs (i + 3)) hX hS dL_law_355 dL_law_356 dL_law_357 dL_law_358 dL_law_359 (by decide) rfl (scr_in (k := 3) (by decide) (by decide) hi hL) (by rw [scr_x (k := 3) (by decide) (by decide) hi hL]) ?_
  refine k_lawVI (pc := 360) (st := []) hX hcl lnL_40 dL_law_360 (t_xc_let (d := 4) (Nat.le_refl _) h1) rfl rfl rfl (by decide) (Nat.le_of_ble_eq_true rfl) ?_
  refine j_aload_n (pc := 363) hX dL_law_363 rfl rfl ?_
  refine j_scr (pc := 364) (v := 1) (x := xs (i + 1)) hX hS dL_law_364 dL_law_365 dL_law_366 dL_law_367 dL_law_368 (by decide) rfl (scr_in (k := 1) (by decide) (by decide) hi hL) (by rw [scr_x (k := 1) (by decide) (by decide) hi hL]) ?_
  refine j_scr (pc := 369) (v := 2) (x := xs (i + 2)) hX hS dL_law_369 dL_law_370 dL_law_371 dL_law_372 dL_law_373 (by decide) rfl (scr_in (k := 2) (by decide) (by decide) hi hL) (by rw [scr_x (k := 2) (by decide) (by decide) hi hL]) ?_
  refine j_scr (pc := 374) (v := 3) (x := xs (i + 3)) hX hS dL_law_374 dL_law_375 dL_law_376 dL_law_377 dL_law_378 (by decide) rfl (scr_in (k := 3) (by decide) (by decide) hi hL) (by rw [scr_x (k := 3) (by decide) (by decide) hi hL]) ?_
  refine k_lawVI (pc := 379) (st := [.int v]) hX hcl lnL_43 dL_law_379 (t_m_let (d := 2) (Nat.le_refl _) h2) rfl rfl rfl (by decide) (Nat.le_of_ble_eq_true rfl) ?_
  exact j_icmp_eq (pc := 382) (tgt := 938) hX dL_law_382 (by decide) (fun _ => nx _ _ h3) (fun z => absurd rfl z)
set_option maxHeartbeats 4000000 in
set_option maxRecDepth 100000 in
theorem lc_join {X : jX} {b L i : Nat} {xs : Nat → Int32} {Inv : jS → jS → Prop} (hX : jOk X RL cL_law 4 300) (hS : jScr X b L xs) (hcl : 60 ≤ X.R.cells ∧ 32940 ≤ X.R.slots) (hi : i + 5 ≤ L) (hL : L ≤ 2560) (ho : Op_join Inv) {c r : jS} (hI : Inv c r) (nx : ∀ c' r', Inv c' r' → J X 60 32940 jN (jE (jmix c' r')) [(1, .ref 0), (2, .ref 30), (3, .int (Int32.ofNat i))] [] 938) : J X 60 32940 jN (jE (jmix c r)) [(1, .ref 0), (2, .ref 30), (3, .int (Int32.ofNat i))] [] 387 := by
  obtain ⟨v, c', r', h1, h2, h3⟩ := ho c r (xs (i + 1)) (xs (i + 2)) (xs (i + 3)) (xs (i + 4)) hI
  refine j_aload_n (pc := 387) hX dL_law_387 rfl rfl ?_
  refine j_scr (pc := 388) (v := 1) (x := xs (i + 1)) hX hS dL_law_388 dL_law_389 dL_law_390 dL_law_391 dL_law_392 (by decide) rfl (scr_in (k := 1) (by decide) (by decide) hi hL) (by rw [scr_x (k := 1) (by decide) (by decide) hi hL]) ?_
  refine j_scr (pc := 393) (v := 2) (x := xs (i + 2)) hX hS dL_law_393 dL_law_394 dL_law_395 dL_law_396 dL_law_397 (by decide) rfl (scr_in (k := 2) (by decide) (by decide) hi hL) (by rw [scr_x (k := 2) (by decide) (by decide) hi hL]) ?_
  refine j_scr (pc := 398) (v := 3) (x := xs (i + 3)) hX hS dL_law_398 dL_law_399 dL_law_400 dL_law_401 dL_law_402 (by decide) rfl (scr_in (k := 3) (by decide) (by decide) hi hL) (by rw [scr_x (k := 3) (by decide) (by decide) hi hL]) ?_
  refine j_scr (pc := 403) (v := 4) (x := xs (i + 4)) hX hS dL_law_403 dL_law_404 dL_law_405 dL_law_406 dL_law_407 (by decide) rfl (scr_in (k := 4) (by decide) (by decide) hi hL) (by rw [scr_x (k := 4) (by decide) (by decide) hi hL]) ?_
  refine k_lawVI (pc := 408) (st := []) hX hcl lnL_44 dL_law_408 (t_xc_join (d := 4) (Nat.le_refl _) h1) rfl rfl rfl (by decide) (Nat.le_of_ble_eq_true rfl) ?_
  refine j_aload_n (pc := 411) hX dL_law_411 rfl rfl ?_
  refine j_scr (pc := 412) (v := 1) (x := xs (i + 1)) hX hS dL_law_412 dL_law_413 dL_law_414 dL_law_415 dL_law_416 (by decide) rfl (scr_in (k := 1) (by decide) (by decide) hi hL) (by rw [scr_x (k := 1) (by decide) (by decide) hi hL]) ?_
  refine j_scr (pc := 417) (v := 2) (x := xs (i + 2)) hX hS dL_law_417 dL_law_418 dL_law_419 dL_law_420 dL_law_421 (by decide) rfl (scr_in (k := 2) (by decide) (by decide) hi hL) (by rw [scr_x (k := 2) (by decide) (by decide) hi hL]) ?_
  refine j_scr (pc := 422) (v := 3) (x := xs (i + 3)) hX hS dL_law_422 dL_law_423 dL_law_424 dL_law_425 dL_law_426 (by decide) rfl (scr_in (k := 3) (by decide) (by decide) hi hL) (by rw [scr_x (k := 3) (by decide) (by decide) hi hL]) ?_
  refine j_scr (pc := 427) (v := 4) (x := xs (i + 4)) hX hS dL_law_427 dL_law_428 dL_law_429 dL_law_430 dL_law_431 (by decide) rfl (scr_in (k := 4) (by decide) (by decide) hi hL) (by rw [scr_x (k := 4) (by decide) (by decide) hi hL]) ?_
  refine k_lawVI (pc := 432) (st := [.int v]) hX hcl lnL_48 dL_law_432 (t_m_join (d := 2) (Nat.le_refl _) h2) rfl rfl rfl (by decide) (Nat.le_of_ble_eq_true rfl) ?_
  exact j_icmp_eq (pc := 435) (tgt := 938) hX dL_law_435 (by decide) (fun _ => nx _ _ h3) (fun z => absurd rfl z)
set_option maxHeartbeats 4000000 in
set_option maxRecDepth 100000 in
theorem lc_told {X : jX} {b L i : Nat} {xs : Nat → Int32} {Inv : jS → jS → Prop} (hX : jOk X RL cL_law 4 300) (hS : jScr X b L xs) (hcl : 60 ≤ X.R.cells ∧ 32940 ≤ X.R.slots) (hi : i + 5 ≤ L) (hL : L ≤ 2560) (ho : Op_told Inv) {c r : jS} (hI : Inv c r) (nx : ∀ c' r', Inv c' r' → J X 60 32940 jN (jE (jmix c' r')) [(1, .ref 0), (2, .ref 30), (3, .int (Int32.ofNat i))] [] 938) : J X 60 32940 jN (jE (jmix c r)) [(1, .ref 0), (2, .ref 30), (3, .int (Int32.ofNat i))] [] 440 := by
  obtain ⟨v, h1, h2, h3⟩ := ho c r (xs (i + 1)) (xs (i + 2)) hI
  refine j_aload_n (pc := 440) hX dL_law_440 rfl rfl ?_
  refine j_scr (pc := 441) (v := 1) (x := xs (i + 1)) hX hS dL_law_441 dL_law_442 dL_law_443 dL_law_444 dL_law_445 (by decide) rfl (scr_in (k := 1) (by decide) (by decide) hi hL) (by rw [scr_x (k := 1) (by decide) (by decide) hi hL]) ?_
  refine j_scr (pc := 446) (v := 2) (x := xs (i + 2)) hX hS dL_law_446 dL_law_447 dL_law_448 dL_law_449 dL_law_450 (by decide) rfl (scr_in (k := 2) (by decide) (by decide) hi hL) (by rw [scr_x (k := 2) (by decide) (by decide) hi hL]) ?_
  refine k_lawVL (pc := 451) (st := []) hX hcl lnL_49 dL_law_451 (t_xc_told (d := 2) (Nat.le_refl _) h1) rfl rfl rfl (by decide) (Nat.le_of_ble_eq_true rfl) ?_
  refine j_aload_n (pc := 454) hX dL_law_454 rfl rfl ?_
  refine j_scr (pc := 455) (v := 1) (x := xs (i + 1)) hX hS dL_law_455 dL_law_456 dL_law_457 dL_law_458 dL_law_459 (by decide) rfl (scr_in (k := 1) (by decide) (by decide) hi hL) (by rw [scr_x (k := 1) (by decide) (by decide) hi hL]) ?_
  refine j_scr (pc := 460) (v := 2) (x := xs (i + 2)) hX hS dL_law_460 dL_law_461 dL_law_462 dL_law_463 dL_law_464 (by decide) rfl (scr_in (k := 2) (by decide) (by decide) hi hL) (by rw [scr_x (k := 2) (by decide) (by decide) hi hL]) ?_
  refine k_lawVL (pc := 465) (st := [.long v]) hX hcl lnL_53 dL_law_465 (t_m_told (d := 2) (Nat.le_refl _) h2) rfl rfl rfl (by decide) (Nat.le_of_ble_eq_true rfl) ?_
  refine j_lcmp (pc := 468) hX dL_law_468 ?_
  exact j_if_eq (pc := 469) (tgt := 938) hX dL_law_469 (by decide) (fun _ => nx _ _ h3) (fun z => absurd (lg_cmp_self _) z)
set_option maxHeartbeats 4000000 in
set_option maxRecDepth 100000 in
theorem lc_free {X : jX} {b L i : Nat} {xs : Nat → Int32} {Inv : jS → jS → Prop} (hX : jOk X RL cL_law 4 300) (hS : jScr X b L xs) (hcl : 60 ≤ X.R.cells ∧ 32940 ≤ X.R.slots) (hi : i + 5 ≤ L) (hL : L ≤ 2560) (ho : Op_free Inv) {c r : jS} (hI : Inv c r) (nx : ∀ c' r', Inv c' r' → J X 60 32940 jN (jE (jmix c' r')) [(1, .ref 0), (2, .ref 30), (3, .int (Int32.ofNat i))] [] 938) : J X 60 32940 jN (jE (jmix c r)) [(1, .ref 0), (2, .ref 30), (3, .int (Int32.ofNat i))] [] 474 := by
  obtain ⟨v, h1, h2, h3⟩ := ho c r (xs (i + 1)) hI
  refine j_aload_n (pc := 474) hX dL_law_474 rfl rfl ?_
  refine j_scr (pc := 475) (v := 1) (x := xs (i + 1)) hX hS dL_law_475 dL_law_476 dL_law_477 dL_law_478 dL_law_479 (by decide) rfl (scr_in (k := 1) (by decide) (by decide) hi hL) (by rw [scr_x (k := 1) (by decide) (by decide) hi hL]) ?_
  refine k_lawVI (pc := 480) (st := []) hX hcl lnL_54 dL_law_480 (t_xc_free (d := 2) (Nat.le_refl _) h1) rfl rfl rfl (by decide) (Nat.le_of_ble_eq_true rfl) ?_
  refine j_aload_n (pc := 483) hX dL_law_483 rfl rfl ?_
  refine j_scr (pc := 484) (v := 1) (x := xs (i + 1)) hX hS dL_law_484 dL_law_485 dL_law_486 dL_law_487 dL_law_488 (by decide) rfl (scr_in (k := 1) (by decide) (by decide) hi hL) (by rw [scr_x (k := 1) (by decide) (by decide) hi hL]) ?_
  refine k_lawVI (pc := 489) (st := [.int v]) hX hcl lnL_57 dL_law_489 (t_m_free (d := 2) (Nat.le_refl _) h2) rfl rfl rfl (by decide) (Nat.le_of_ble_eq_true rfl) ?_
  exact j_icmp_eq (pc := 492) (tgt := 938) hX dL_law_492 (by decide) (fun _ => nx _ _ h3) (fun z => absurd rfl z)
set_option maxHeartbeats 4000000 in
set_option maxRecDepth 100000 in
theorem lc_uses {X : jX} {b L i : Nat} {xs : Nat → Int32} {Inv : jS → jS → Prop} (hX : jOk X RL cL_law 4 300) (hS : jScr X b L xs) (hcl : 60 ≤ X.R.cells ∧ 32940 ≤ X.R.slots) (hi : i + 5 ≤ L) (hL : L ≤ 2560) (ho : Op_uses Inv) {c r : jS} (hI : Inv c r) (nx : ∀ c' r', Inv c' r' → J X 60 32940 jN (jE (jmix c' r')) [(1, .ref 0), (2, .ref 30), (3, .int (Int32.ofNat i))] [] 938) : J X 60 32940 jN (jE (jmix c r)) [(1, .ref 0), (2, .ref 30), (3, .int (Int32.ofNat i))] [] 497 := by
  obtain ⟨v, h1, h2, h3⟩ := ho c r (xs (i + 1)) (xs (i + 2)) hI
  refine j_aload_n (pc := 497) hX dL_law_497 rfl rfl ?_
  refine j_scr (pc := 498) (v := 1) (x := xs (i + 1)) hX hS dL_law_498 dL_law_499 dL_law_500 dL_law_501 dL_law_502 (by decide) rfl (scr_in (k := 1) (by decide) (by decide) hi hL) (by rw [scr_x (k := 1) (by decide) (by decide) hi hL]) ?_
  refine j_scr (pc := 503) (v := 2) (x := xs (i + 2)) hX hS dL_law_503 dL_law_504 dL_law_505 dL_law_506 dL_law_507 (by decide) rfl (scr_in (k := 2) (by decide) (by decide) hi hL) (by rw [scr_x (k := 2) (by decide) (by decide) hi hL]) ?_
  refine k_lawVI (pc := 508) (st := []) hX hcl lnL_58 dL_law_508 (t_xc_uses (d := 134) (Nat.le_refl _) h1) rfl rfl rfl (by decide) (Nat.le_of_ble_eq_true rfl) ?_
  refine j_aload_n (pc := 511) hX dL_law_511 rfl rfl ?_
  refine j_scr (pc := 512) (v := 1) (x := xs (i + 1)) hX hS dL_law_512 dL_law_513 dL_law_514 dL_law_515 dL_law_516 (by decide) rfl (scr_in (k := 1) (by decide) (by decide) hi hL) (by rw [scr_x (k := 1) (by decide) (by decide) hi hL]) ?_
  refine j_scr (pc := 517) (v := 2) (x := xs (i + 2)) hX hS dL_law_517 dL_law_518 dL_law_519 dL_law_520 dL_law_521 (by decide) rfl (scr_in (k := 2) (by decide) (by decide) hi hL) (by rw [scr_x (k := 2) (by decide) (by decide) hi hL]) ?_
  refine k_lawVI (pc := 522) (st := [.int v]) hX hcl lnL_61 dL_law_522 (t_m_uses (d := 2) (Nat.le_refl _) h2) rfl rfl rfl (by decide) (Nat.le_of_ble_eq_true rfl) ?_
  exact j_icmp_eq (pc := 525) (tgt := 938) hX dL_law_525 (by decide) (fun _ => nx _ _ h3) (fun z => absurd rfl z)
set_option maxHeartbeats 4000000 in
set_option maxRecDepth 100000 in
theorem lc_type {X : jX} {b L i : Nat} {xs : Nat → Int32} {Inv : jS → jS → Prop} (hX : jOk X RL cL_law 4 300) (hS : jScr X b L xs) (hcl : 60 ≤ X.R.cells ∧ 32940 ≤ X.R.slots) (hi : i + 5 ≤ L) (hL : L ≤ 2560) (ho : Op_type Inv) {c r : jS} (hI : Inv c r) (nx : ∀ c' r', Inv c' r' → J X 60 32940 jN (jE (jmix c' r')) [(1, .ref 0), (2, .ref 30), (3, .int (Int32.ofNat i))] [] 938) : J X 60 32940 jN (jE (jmix c r)) [(1, .ref 0), (2, .ref 30), (3, .int (Int32.ofNat i))] [] 530 := by
  obtain ⟨v, c', r', h1, h2, h3⟩ := ho c r (xs (i + 1)) hI
  refine j_aload_n (pc := 530) hX dL_law_530 rfl rfl ?_
  refine j_scr (pc := 531) (v := 1) (x := xs (i + 1)) hX hS dL_law_531 dL_law_532 dL_law_533 dL_law_534 dL_law_535 (by decide) rfl (scr_in (k := 1) (by decide) (by decide) hi hL) (by rw [scr_x (k := 1) (by decide) (by decide) hi hL]) ?_
  refine k_lawVI (pc := 536) (st := []) hX hcl lnL_62 dL_law_536 (t_xc_type (d := 135) (Nat.le_refl _) h1) rfl rfl rfl (by decide) (Nat.le_of_ble_eq_true rfl) ?_
  refine j_aload_n (pc := 539) hX dL_law_539 rfl rfl ?_
  refine j_scr (pc := 540) (v := 1) (x := xs (i + 1)) hX hS dL_law_540 dL_law_541 dL_law_542 dL_law_543 dL_law_544 (by decide) rfl (scr_in (k := 1) (by decide) (by decide) hi hL) (by rw [scr_x (k := 1) (by decide) (by decide) hi hL]) ?_
  refine k_lawVI (pc := 545) (st := [.int v]) hX hcl lnL_65 dL_law_545 (t_m_type (d := 2) (Nat.le_refl _) h2) rfl rfl rfl (by decide) (Nat.le_of_ble_eq_true rfl) ?_
  exact j_icmp_eq (pc := 548) (tgt := 938) hX dL_law_548 (by decide) (fun _ => nx _ _ h3) (fun z => absurd rfl z)
set_option maxHeartbeats 4000000 in
set_option maxRecDepth 100000 in
theorem lc_fault {X : jX} {b L i : Nat} {xs : Nat → Int32} {Inv : jS → jS → Prop} (hX : jOk X RL cL_law 4 300) (hS : jScr X b L xs) (hcl : 60 ≤ X.R.cells ∧ 32940 ≤ X.R.slots) (hi : i + 5 ≤ L) (hL : L ≤ 2560) (ho : Op_fault Inv) {c r : jS} (hI : Inv c r) (nx : ∀ c' r', Inv c' r' → J X 60 32940 jN (jE (jmix c' r')) [(1, .ref 0), (2, .ref 30), (3, .int (Int32.ofNat i))] [] 938) : J X 60 32940 jN (jE (jmix c r)) [(1, .ref 0), (2, .ref 30), (3, .int (Int32.ofNat i))] [] 553 := by
  obtain ⟨v, h1, h2, h3⟩ := ho c r (xs (i + 1)) hI
  refine j_aload_n (pc := 553) hX dL_law_553 rfl rfl ?_
  refine j_scr (pc := 554) (v := 1) (x := xs (i + 1)) hX hS dL_law_554 dL_law_555 dL_law_556 dL_law_557 dL_law_558 (by decide) rfl (scr_in (k := 1) (by decide) (by decide) hi hL) (by rw [scr_x (k := 1) (by decide) (by decide) hi hL]) ?_
  refine k_lawVI (pc := 559) (st := []) hX hcl lnL_66 dL_law_559 (t_xc_fault (d := 1) (Nat.le_refl _) h1) rfl rfl rfl (by decide) (Nat.le_of_ble_eq_true rfl) ?_
  refine j_aload_n (pc := 562) hX dL_law_562 rfl rfl ?_
  refine j_scr (pc := 563) (v := 1) (x := xs (i + 1)) hX hS dL_law_563 dL_law_564 dL_law_565 dL_law_566 dL_law_567 (by decide) rfl (scr_in (k := 1) (by decide) (by decide) hi hL) (by rw [scr_x (k := 1) (by decide) (by decide) hi hL]) ?_
  refine k_lawVI (pc := 568) (st := [.int v]) hX hcl lnL_69 dL_law_568 (t_m_fault (d := 0) (Nat.le_refl _) h2) rfl rfl rfl (by decide) (Nat.le_of_ble_eq_true rfl) ?_
  exact j_icmp_eq (pc := 571) (tgt := 938) hX dL_law_571 (by decide) (fun _ => nx _ _ h3) (fun z => absurd rfl z)
set_option maxHeartbeats 4000000 in
set_option maxRecDepth 100000 in
theorem lc_alike {X : jX} {b L i : Nat} {xs : Nat → Int32} {Inv : jS → jS → Prop} (hX : jOk X RL cL_law 4 300) (hS : jScr X b L xs) (hcl : 60 ≤ X.R.cells ∧ 32940 ≤ X.R.slots) (hi : i + 5 ≤ L) (hL : L ≤ 2560) (ho : Op_alike Inv) {c r : jS} (hI : Inv c r) (nx : ∀ c' r', Inv c' r' → J X 60 32940 jN (jE (jmix c' r')) [(1, .ref 0), (2, .ref 30), (3, .int (Int32.ofNat i))] [] 938) : J X 60 32940 jN (jE (jmix c r)) [(1, .ref 0), (2, .ref 30), (3, .int (Int32.ofNat i))] [] 576 := by
  obtain ⟨v, c', r', h1, h2, h3⟩ := ho c r (xs (i + 1)) (xs (i + 2)) hI
  refine j_aload_n (pc := 576) hX dL_law_576 rfl rfl ?_
  refine j_scr (pc := 577) (v := 1) (x := xs (i + 1)) hX hS dL_law_577 dL_law_578 dL_law_579 dL_law_580 dL_law_581 (by decide) rfl (scr_in (k := 1) (by decide) (by decide) hi hL) (by rw [scr_x (k := 1) (by decide) (by decide) hi hL]) ?_
  refine j_scr (pc := 582) (v := 2) (x := xs (i + 2)) hX hS dL_law_582 dL_law_583 dL_law_584 dL_law_585 dL_law_586 (by decide) rfl (scr_in (k := 2) (by decide) (by decide) hi hL) (by rw [scr_x (k := 2) (by decide) (by decide) hi hL]) ?_
  refine k_lawVI (pc := 587) (st := []) hX hcl lnL_70 dL_law_587 (t_xc_alike (d := 134) (Nat.le_refl _) h1) rfl rfl rfl (by decide) (Nat.le_of_ble_eq_true rfl) ?_
  refine j_aload_n (pc := 590) hX dL_law_590 rfl rfl ?_
  refine j_scr (pc := 591) (v := 1) (x := xs (i + 1)) hX hS dL_law_591 dL_law_592 dL_law_593 dL_law_594 dL_law_595 (by decide) rfl (scr_in (k := 1) (by decide) (by decide) hi hL) (by rw [scr_x (k := 1) (by decide) (by decide) hi hL]) ?_
  refine j_scr (pc := 596) (v := 2) (x := xs (i + 2)) hX hS dL_law_596 dL_law_597 dL_law_598 dL_law_599 dL_law_600 (by decide) rfl (scr_in (k := 2) (by decide) (by decide) hi hL) (by rw [scr_x (k := 2) (by decide) (by decide) hi hL]) ?_
  refine k_lawVI (pc := 601) (st := [.int v]) hX hcl lnL_73 dL_law_601 (t_m_alike (d := 2) (Nat.le_refl _) h2) rfl rfl rfl (by decide) (Nat.le_of_ble_eq_true rfl) ?_
  exact j_icmp_eq (pc := 604) (tgt := 938) hX dL_law_604 (by decide) (fun _ => nx _ _ h3) (fun z => absurd rfl z)
set_option maxHeartbeats 4000000 in
set_option maxRecDepth 100000 in
theorem lc_least {X : jX} {b L i : Nat} {xs : Nat → Int32} {Inv : jS → jS → Prop} (hX : jOk X RL cL_law 4 300) (hS : jScr X b L xs) (hcl : 60 ≤ X.R.cells ∧ 32940 ≤ X.R.slots) (hi : i + 5 ≤ L) (hL : L ≤ 2560) (ho : Op_least Inv) {c r : jS} (hI : Inv c r) (nx : ∀ c' r', Inv c' r' → J X 60 32940 jN (jE (jmix c' r')) [(1, .ref 0), (2, .ref 30), (3, .int (Int32.ofNat i))] [] 938) : J X 60 32940 jN (jE (jmix c r)) [(1, .ref 0), (2, .ref 30), (3, .int (Int32.ofNat i))] [] 609 := by
  obtain ⟨v, c', r', h1, h2, h3⟩ := ho c r (xs (i + 1)) hI
  refine j_aload_n (pc := 609) hX dL_law_609 rfl rfl ?_
  refine j_scr (pc := 610) (v := 1) (x := xs (i + 1)) hX hS dL_law_610 dL_law_611 dL_law_612 dL_law_613 dL_law_614 (by decide) rfl (scr_in (k := 1) (by decide) (by decide) hi hL) (by rw [scr_x (k := 1) (by decide) (by decide) hi hL]) ?_
  refine k_lawVI (pc := 615) (st := []) hX hcl lnL_74 dL_law_615 (t_xc_least (d := 134) (Nat.le_refl _) h1) rfl rfl rfl (by decide) (Nat.le_of_ble_eq_true rfl) ?_
  refine j_aload_n (pc := 618) hX dL_law_618 rfl rfl ?_
  refine j_scr (pc := 619) (v := 1) (x := xs (i + 1)) hX hS dL_law_619 dL_law_620 dL_law_621 dL_law_622 dL_law_623 (by decide) rfl (scr_in (k := 1) (by decide) (by decide) hi hL) (by rw [scr_x (k := 1) (by decide) (by decide) hi hL]) ?_
  refine k_lawVI (pc := 624) (st := [.int v]) hX hcl lnL_77 dL_law_624 (t_m_least (d := 2) (Nat.le_refl _) h2) rfl rfl rfl (by decide) (Nat.le_of_ble_eq_true rfl) ?_
  exact j_icmp_eq (pc := 627) (tgt := 938) hX dL_law_627 (by decide) (fun _ => nx _ _ h3) (fun z => absurd rfl z)
set_option maxHeartbeats 4000000 in
set_option maxRecDepth 100000 in
theorem lc_put {X : jX} {b L i : Nat} {xs : Nat → Int32} {Inv : jS → jS → Prop} (hX : jOk X RL cL_law 4 300) (hS : jScr X b L xs) (hcl : 60 ≤ X.R.cells ∧ 32940 ≤ X.R.slots) (hi : i + 5 ≤ L) (hL : L ≤ 2560) (ho : Op_put Inv) {c r : jS} (hI : Inv c r) (nx : ∀ c' r', Inv c' r' → J X 60 32940 jN (jE (jmix c' r')) [(1, .ref 0), (2, .ref 30), (3, .int (Int32.ofNat i))] [] 938) : J X 60 32940 jN (jE (jmix c r)) [(1, .ref 0), (2, .ref 30), (3, .int (Int32.ofNat i))] [] 632 := by
  obtain ⟨v, c', r', h1, h2, h3⟩ := ho c r (xs (i + 1)) (xs (i + 2)) (xs (i + 3)) hI
  refine j_aload_n (pc := 632) hX dL_law_632 rfl rfl ?_
  refine j_scr (pc := 633) (v := 1) (x := xs (i + 1)) hX hS dL_law_633 dL_law_634 dL_law_635 dL_law_636 dL_law_637 (by decide) rfl (scr_in (k := 1) (by decide) (by decide) hi hL) (by rw [scr_x (k := 1) (by decide) (by decide) hi hL]) ?_
  refine j_scr (pc := 638) (v := 2) (x := xs (i + 2)) hX hS dL_law_638 dL_law_639 dL_law_640 dL_law_641 dL_law_642 (by decide) rfl (scr_in (k := 2) (by decide) (by decide) hi hL) (by rw [scr_x (k := 2) (by decide) (by decide) hi hL]) ?_
  refine j_scr (pc := 643) (v := 3) (x := xs (i + 3)) hX hS dL_law_643 dL_law_644 dL_law_645 dL_law_646 dL_law_647 (by decide) rfl (scr_in (k := 3) (by decide) (by decide) hi hL) (by rw [scr_x (k := 3) (by decide) (by decide) hi hL]) ?_
  refine k_lawVI (pc := 648) (st := []) hX hcl lnL_78 dL_law_648 (t_xc_put (d := 135) (Nat.le_refl _) h1) rfl rfl rfl (by decide) (Nat.le_of_ble_eq_true rfl) ?_
  refine j_aload_n (pc := 651) hX dL_law_651 rfl rfl ?_
  refine j_scr (pc := 652) (v := 1) (x := xs (i + 1)) hX hS dL_law_652 dL_law_653 dL_law_654 dL_law_655 dL_law_656 (by decide) rfl (scr_in (k := 1) (by decide) (by decide) hi hL) (by rw [scr_x (k := 1) (by decide) (by decide) hi hL]) ?_
  refine j_scr (pc := 657) (v := 2) (x := xs (i + 2)) hX hS dL_law_657 dL_law_658 dL_law_659 dL_law_660 dL_law_661 (by decide) rfl (scr_in (k := 2) (by decide) (by decide) hi hL) (by rw [scr_x (k := 2) (by decide) (by decide) hi hL]) ?_
  refine j_scr (pc := 662) (v := 3) (x := xs (i + 3)) hX hS dL_law_662 dL_law_663 dL_law_664 dL_law_665 dL_law_666 (by decide) rfl (scr_in (k := 3) (by decide) (by decide) hi hL) (by rw [scr_x (k := 3) (by decide) (by decide) hi hL]) ?_
  refine k_lawVI (pc := 667) (st := [.int v]) hX hcl lnL_81 dL_law_667 (t_m_put (d := 6) (Nat.le_refl _) h2) rfl rfl rfl (by decide) (Nat.le_of_ble_eq_true rfl) ?_
  exact j_icmp_eq (pc := 670) (tgt := 938) hX dL_law_670 (by decide) (fun _ => nx _ _ h3) (fun z => absurd rfl z)
set_option maxHeartbeats 4000000 in
set_option maxRecDepth 100000 in
theorem lc_step {X : jX} {b L i : Nat} {xs : Nat → Int32} {Inv : jS → jS → Prop} (hX : jOk X RL cL_law 4 300) (hS : jScr X b L xs) (hcl : 60 ≤ X.R.cells ∧ 32940 ≤ X.R.slots) (hi : i + 5 ≤ L) (hL : L ≤ 2560) (ho : Op_step Inv) {c r : jS} (hI : Inv c r) (nx : ∀ c' r', Inv c' r' → J X 60 32940 jN (jE (jmix c' r')) [(1, .ref 0), (2, .ref 30), (3, .int (Int32.ofNat i))] [] 938) : J X 60 32940 jN (jE (jmix c r)) [(1, .ref 0), (2, .ref 30), (3, .int (Int32.ofNat i))] [] 675 := by
  obtain ⟨v, c', r', h1, h2, h3⟩ := ho c r (xs (i + 1)) hI
  refine j_aload_n (pc := 675) hX dL_law_675 rfl rfl ?_
  refine j_scr (pc := 676) (v := 1) (x := xs (i + 1)) hX hS dL_law_676 dL_law_677 dL_law_678 dL_law_679 dL_law_680 (by decide) rfl (scr_in (k := 1) (by decide) (by decide) hi hL) (by rw [scr_x (k := 1) (by decide) (by decide) hi hL]) ?_
  refine k_lawVI (pc := 681) (st := []) hX hcl lnL_82 dL_law_681 (t_xc_step (d := 266) (Nat.le_refl _) h1) rfl rfl rfl (by decide) (Nat.le_of_ble_eq_true rfl) ?_
  refine j_aload_n (pc := 684) hX dL_law_684 rfl rfl ?_
  refine j_scr (pc := 685) (v := 1) (x := xs (i + 1)) hX hS dL_law_685 dL_law_686 dL_law_687 dL_law_688 dL_law_689 (by decide) rfl (scr_in (k := 1) (by decide) (by decide) hi hL) (by rw [scr_x (k := 1) (by decide) (by decide) hi hL]) ?_
  refine k_lawVI (pc := 690) (st := [.int v]) hX hcl lnL_85 dL_law_690 (t_m_step (d := 8) (Nat.le_refl _) h2) rfl rfl rfl (by decide) (Nat.le_of_ble_eq_true rfl) ?_
  exact j_icmp_eq (pc := 693) (tgt := 938) hX dL_law_693 (by decide) (fun _ => nx _ _ h3) (fun z => absurd rfl z)
set_option maxHeartbeats 4000000 in
set_option maxRecDepth 100000 in
theorem lc_run {X : jX} {b L i : Nat} {xs : Nat → Int32} {Inv : jS → jS → Prop} (hX : jOk X RL cL_law 4 300) (hS : jScr X b L xs) (hcl : 60 ≤ X.R.cells ∧ 32940 ≤ X.R.slots) (hi : i + 5 ≤ L) (hL : L ≤ 2560) (ho : Op_run Inv) {c r : jS} (hI : Inv c r) (nx : ∀ c' r', Inv c' r' → J X 60 32940 jN (jE (jmix c' r')) [(1, .ref 0), (2, .ref 30), (3, .int (Int32.ofNat i))] [] 938) : J X 60 32940 jN (jE (jmix c r)) [(1, .ref 0), (2, .ref 30), (3, .int (Int32.ofNat i))] [] 698 := by
  obtain ⟨v, c', r', h1, h2, h3⟩ := ho c r (xs (i + 1)) (xs (i + 2)) hI
  refine j_aload_n (pc := 698) hX dL_law_698 rfl rfl ?_
  refine j_scr (pc := 699) (v := 1) (x := xs (i + 1)) hX hS dL_law_699 dL_law_700 dL_law_701 dL_law_702 dL_law_703 (by decide) rfl (scr_in (k := 1) (by decide) (by decide) hi hL) (by rw [scr_x (k := 1) (by decide) (by decide) hi hL]) ?_
  refine j_scr (pc := 704) (v := 2) (x := xs (i + 2)) hX hS dL_law_704 dL_law_705 dL_law_706 dL_law_707 dL_law_708 (by decide) rfl (scr_in (k := 2) (by decide) (by decide) hi hL) (by rw [scr_x (k := 2) (by decide) (by decide) hi hL]) ?_
  refine k_lawVI (pc := 709) (st := []) hX hcl lnL_86 dL_law_709 (t_xc_run (d := 266) (Nat.le_refl _) h1) rfl rfl rfl (by decide) (Nat.le_of_ble_eq_true rfl) ?_
  refine j_aload_n (pc := 712) hX dL_law_712 rfl rfl ?_
  refine j_scr (pc := 713) (v := 1) (x := xs (i + 1)) hX hS dL_law_713 dL_law_714 dL_law_715 dL_law_716 dL_law_717 (by decide) rfl (scr_in (k := 1) (by decide) (by decide) hi hL) (by rw [scr_x (k := 1) (by decide) (by decide) hi hL]) ?_
  refine j_scr (pc := 718) (v := 2) (x := xs (i + 2)) hX hS dL_law_718 dL_law_719 dL_law_720 dL_law_721 dL_law_722 (by decide) rfl (scr_in (k := 2) (by decide) (by decide) hi hL) (by rw [scr_x (k := 2) (by decide) (by decide) hi hL]) ?_
  refine k_lawVI (pc := 723) (st := [.int v]) hX hcl lnL_89 dL_law_723 (t_m_run (d := 8) (Nat.le_refl _) h2) rfl rfl rfl (by decide) (Nat.le_of_ble_eq_true rfl) ?_
  exact j_icmp_eq (pc := 726) (tgt := 938) hX dL_law_726 (by decide) (fun _ => nx _ _ h3) (fun z => absurd rfl z)
set_option maxHeartbeats 4000000 in
set_option maxRecDepth 100000 in
theorem lc_ran {X : jX} {b L i : Nat} {xs : Nat → Int32} {Inv : jS → jS → Prop} (hX : jOk X RL cL_law 4 300) (hS : jScr X b L xs) (hcl : 60 ≤ X.R.cells ∧ 32940 ≤ X.R.slots) (hi : i + 5 ≤ L) (hL : L ≤ 2560) (ho : Op_ran Inv) {c r : jS} (hI : Inv c r) (nx : ∀ c' r', Inv c' r' → J X 60 32940 jN (jE (jmix c' r')) [(1, .ref 0), (2, .ref 30), (3, .int (Int32.ofNat i))] [] 938) : J X 60 32940 jN (jE (jmix c r)) [(1, .ref 0), (2, .ref 30), (3, .int (Int32.ofNat i))] [] 731 := by
  obtain ⟨v, h1, h2, h3⟩ := ho c r hI
  refine j_aload_n (pc := 731) hX dL_law_731 rfl rfl ?_
  refine k_lawVI (pc := 732) (st := []) hX hcl lnL_90 dL_law_732 (t_xc_ran (d := 0) (Nat.le_refl _) h1) rfl rfl rfl (by decide) (Nat.le_of_ble_eq_true rfl) ?_
  refine j_aload_n (pc := 735) hX dL_law_735 rfl rfl ?_
  refine k_lawVI (pc := 736) (st := [.int v]) hX hcl lnL_94 dL_law_736 (t_m_ran (d := 0) (Nat.le_refl _) h2) rfl rfl rfl (by decide) (Nat.le_of_ble_eq_true rfl) ?_
  exact j_icmp_eq (pc := 739) (tgt := 938) hX dL_law_739 (by decide) (fun _ => nx _ _ h3) (fun z => absurd rfl z)
set_option maxHeartbeats 4000000 in
set_option maxRecDepth 100000 in
theorem lc_drop {X : jX} {b L i : Nat} {xs : Nat → Int32} {Inv : jS → jS → Prop} (hX : jOk X RL cL_law 4 300) (hS : jScr X b L xs) (hcl : 60 ≤ X.R.cells ∧ 32940 ≤ X.R.slots) (hi : i + 5 ≤ L) (hL : L ≤ 2560) (ho : Op_drop Inv) {c r : jS} (hI : Inv c r) (nx : ∀ c' r', Inv c' r' → J X 60 32940 jN (jE (jmix c' r')) [(1, .ref 0), (2, .ref 30), (3, .int (Int32.ofNat i))] [] 938) : J X 60 32940 jN (jE (jmix c r)) [(1, .ref 0), (2, .ref 30), (3, .int (Int32.ofNat i))] [] 744 := by
  obtain ⟨v, c', r', h1, h2, h3⟩ := ho c r (xs (i + 1)) hI
  refine j_aload_n (pc := 744) hX dL_law_744 rfl rfl ?_
  refine j_scr (pc := 745) (v := 1) (x := xs (i + 1)) hX hS dL_law_745 dL_law_746 dL_law_747 dL_law_748 dL_law_749 (by decide) rfl (scr_in (k := 1) (by decide) (by decide) hi hL) (by rw [scr_x (k := 1) (by decide) (by decide) hi hL]) ?_
  refine k_lawVI (pc := 750) (st := []) hX hcl lnL_95 dL_law_750 (t_xc_drop (d := 135) (Nat.le_refl _) h1) rfl rfl rfl (by decide) (Nat.le_of_ble_eq_true rfl) ?_
  refine j_aload_n (pc := 753) hX dL_law_753 rfl rfl ?_
  refine j_scr (pc := 754) (v := 1) (x := xs (i + 1)) hX hS dL_law_754 dL_law_755 dL_law_756 dL_law_757 dL_law_758 (by decide) rfl (scr_in (k := 1) (by decide) (by decide) hi hL) (by rw [scr_x (k := 1) (by decide) (by decide) hi hL]) ?_
  refine k_lawVI (pc := 759) (st := [.int v]) hX hcl lnL_98 dL_law_759 (t_m_drop (d := 4) (Nat.le_refl _) h2) rfl rfl rfl (by decide) (Nat.le_of_ble_eq_true rfl) ?_
  exact j_icmp_eq (pc := 762) (tgt := 938) hX dL_law_762 (by decide) (fun _ => nx _ _ h3) (fun z => absurd rfl z)
set_option maxHeartbeats 4000000 in
set_option maxRecDepth 100000 in
theorem lc_print {X : jX} {b L i : Nat} {xs : Nat → Int32} {Inv : jS → jS → Prop} (hX : jOk X RL cL_law 4 300) (hS : jScr X b L xs) (hcl : 60 ≤ X.R.cells ∧ 32940 ≤ X.R.slots) (hi : i + 5 ≤ L) (hL : L ≤ 2560) (ho : Op_print Inv) {c r : jS} (hI : Inv c r) (nx : ∀ c' r', Inv c' r' → J X 60 32940 jN (jE (jmix c' r')) [(1, .ref 0), (2, .ref 30), (3, .int (Int32.ofNat i))] [] 938) : J X 60 32940 jN (jE (jmix c r)) [(1, .ref 0), (2, .ref 30), (3, .int (Int32.ofNat i))] [] 767 := by
  obtain ⟨v, c', r', h1, h2, h3⟩ := ho c r (xs (i + 1)) hI
  refine j_aload_n (pc := 767) hX dL_law_767 rfl rfl ?_
  refine j_scr (pc := 768) (v := 1) (x := xs (i + 1)) hX hS dL_law_768 dL_law_769 dL_law_770 dL_law_771 dL_law_772 (by decide) rfl (scr_in (k := 1) (by decide) (by decide) hi hL) (by rw [scr_x (k := 1) (by decide) (by decide) hi hL]) ?_
  refine k_lawVI (pc := 773) (st := []) hX hcl lnL_99 dL_law_773 (t_xc_print (d := 265) (Nat.le_refl _) h1) rfl rfl rfl (by decide) (Nat.le_of_ble_eq_true rfl) ?_
  refine j_aload_n (pc := 776) hX dL_law_776 rfl rfl ?_
  refine j_scr (pc := 777) (v := 1) (x := xs (i + 1)) hX hS dL_law_777 dL_law_778 dL_law_779 dL_law_780 dL_law_781 (by decide) rfl (scr_in (k := 1) (by decide) (by decide) hi hL) (by rw [scr_x (k := 1) (by decide) (by decide) hi hL]) ?_
  refine k_lawVI (pc := 782) (st := [.int v]) hX hcl lnL_102 dL_law_782 (t_m_print (d := 3) (Nat.le_refl _) h2) rfl rfl rfl (by decide) (Nat.le_of_ble_eq_true rfl) ?_
  exact j_icmp_eq (pc := 785) (tgt := 938) hX dL_law_785 (by decide) (fun _ => nx _ _ h3) (fun z => absurd rfl z)
set_option maxHeartbeats 4000000 in
set_option maxRecDepth 100000 in
theorem lc_at {X : jX} {b L i : Nat} {xs : Nat → Int32} {Inv : jS → jS → Prop} (hX : jOk X RL cL_law 4 300) (hS : jScr X b L xs) (hcl : 60 ≤ X.R.cells ∧ 32940 ≤ X.R.slots) (hi : i + 5 ≤ L) (hL : L ≤ 2560) (ho : Op_at Inv) {c r : jS} (hI : Inv c r) (nx : ∀ c' r', Inv c' r' → J X 60 32940 jN (jE (jmix c' r')) [(1, .ref 0), (2, .ref 30), (3, .int (Int32.ofNat i))] [] 938) : J X 60 32940 jN (jE (jmix c r)) [(1, .ref 0), (2, .ref 30), (3, .int (Int32.ofNat i))] [] 790 := by
  obtain ⟨v, h1, h2, h3⟩ := ho c r (xs (i + 1)) hI
  refine j_aload_n (pc := 790) hX dL_law_790 rfl rfl ?_
  refine j_scr (pc := 791) (v := 1) (x := xs (i + 1)) hX hS dL_law_791 dL_law_792 dL_law_793 dL_law_794 dL_law_795 (by decide) rfl (scr_in (k := 1) (by decide) (by decide) hi hL) (by rw [scr_x (k := 1) (by decide) (by decide) hi hL]) ?_
  refine k_lawVI (pc := 796) (st := []) hX hcl lnL_103 dL_law_796 (t_xc_at (d := 1) (Nat.le_refl _) h1) rfl rfl rfl (by decide) (Nat.le_of_ble_eq_true rfl) ?_
  refine j_aload_n (pc := 799) hX dL_law_799 rfl rfl ?_
  refine j_scr (pc := 800) (v := 1) (x := xs (i + 1)) hX hS dL_law_800 dL_law_801 dL_law_802 dL_law_803 dL_law_804 (by decide) rfl (scr_in (k := 1) (by decide) (by decide) hi hL) (by rw [scr_x (k := 1) (by decide) (by decide) hi hL]) ?_
  refine k_lawVI (pc := 805) (st := [.int v]) hX hcl lnL_106 dL_law_805 (t_m_at (d := 1) (Nat.le_refl _) h2) rfl rfl rfl (by decide) (Nat.le_of_ble_eq_true rfl) ?_
  exact j_icmp_eq (pc := 808) (tgt := 938) hX dL_law_808 (by decide) (fun _ => nx _ _ h3) (fun z => absurd rfl z)
set_option maxHeartbeats 4000000 in
set_option maxRecDepth 100000 in
theorem lc_feed {X : jX} {b L i : Nat} {xs : Nat → Int32} {Inv : jS → jS → Prop} (hX : jOk X RL cL_law 4 300) (hS : jScr X b L xs) (hcl : 60 ≤ X.R.cells ∧ 32940 ≤ X.R.slots) (hi : i + 5 ≤ L) (hL : L ≤ 2560) (ho : Op_feed Inv) {c r : jS} (hI : Inv c r) (nx : ∀ c' r', Inv c' r' → J X 60 32940 jN (jE (jmix c' r')) [(1, .ref 0), (2, .ref 30), (3, .int (Int32.ofNat i))] [] 938) : J X 60 32940 jN (jE (jmix c r)) [(1, .ref 0), (2, .ref 30), (3, .int (Int32.ofNat i))] [] 813 := by
  obtain ⟨v, c', r', h1, h2, h3⟩ := ho c r (((xs (i + 1)).toInt64 <<< ((32 : Int32).toInt64 &&& 63)) ||| ((xs (i + 2)).toInt64 &&& (4294967295 : Int64))) (xs (i + 3)) hI
  refine j_aload_n (pc := 813) hX dL_law_813 rfl rfl ?_
  refine j_scr (pc := 814) (v := 1) (x := xs (i + 1)) hX hS dL_law_814 dL_law_815 dL_law_816 dL_law_817 dL_law_818 (by decide) rfl (scr_in (k := 1) (by decide) (by decide) hi hL) (by rw [scr_x (k := 1) (by decide) (by decide) hi hL]) ?_
  refine j_i2l (pc := 819) hX dL_law_819 ?_
  refine j_bipush (pc := 820) (v := (32 : Int32)) hX dL_law_820 (by decide) ?_
  refine j_lshl (pc := 822) hX dL_law_822 ?_
  refine j_scr (pc := 823) (v := 2) (x := xs (i + 2)) hX hS dL_law_823 dL_law_824 dL_law_825 dL_law_826 dL_law_827 (by decide) rfl (scr_in (k := 2) (by decide) (by decide) hi hL) (by rw [scr_x (k := 2) (by decide) (by decide) hi hL]) ?_
  refine j_i2l (pc := 828) hX dL_law_828 ?_
  refine j_ldc2 (pc := 829) (v := (4294967295 : Int64)) hX dL_law_829 (mr_1 _ (List.mem_of_getElem? (i := 6) rfl)) ?_
  refine j_land (pc := 832) hX dL_law_832 ?_
  refine j_lor (pc := 833) hX dL_law_833 ?_
  refine j_scr (pc := 834) (v := 3) (x := xs (i + 3)) hX hS dL_law_834 dL_law_835 dL_law_836 dL_law_837 dL_law_838 (by decide) rfl (scr_in (k := 3) (by decide) (by decide) hi hL) (by rw [scr_x (k := 3) (by decide) (by decide) hi hL]) ?_
  refine k_lawVI (pc := 839) (st := []) hX hcl lnL_109 dL_law_839 (t_xc_feed (d := 2) (Nat.le_refl _) h1) rfl rfl rfl (by decide) (Nat.le_of_ble_eq_true rfl) ?_
  refine j_aload_n (pc := 842) hX dL_law_842 rfl rfl ?_
  refine j_scr (pc := 843) (v := 1) (x := xs (i + 1)) hX hS dL_law_843 dL_law_844 dL_law_845 dL_law_846 dL_law_847 (by decide) rfl (scr_in (k := 1) (by decide) (by decide) hi hL) (by rw [scr_x (k := 1) (by decide) (by decide) hi hL]) ?_
  refine j_i2l (pc := 848) hX dL_law_848 ?_
  refine j_bipush (pc := 849) (v := (32 : Int32)) hX dL_law_849 (by decide) ?_
  refine j_lshl (pc := 851) hX dL_law_851 ?_
  refine j_scr (pc := 852) (v := 2) (x := xs (i + 2)) hX hS dL_law_852 dL_law_853 dL_law_854 dL_law_855 dL_law_856 (by decide) rfl (scr_in (k := 2) (by decide) (by decide) hi hL) (by rw [scr_x (k := 2) (by decide) (by decide) hi hL]) ?_
  refine j_i2l (pc := 857) hX dL_law_857 ?_
  refine j_ldc2 (pc := 858) (v := (4294967295 : Int64)) hX dL_law_858 (mr_1 _ (List.mem_of_getElem? (i := 6) rfl)) ?_
  refine j_land (pc := 861) hX dL_law_861 ?_
  refine j_lor (pc := 862) hX dL_law_862 ?_
  refine j_scr (pc := 863) (v := 3) (x := xs (i + 3)) hX hS dL_law_863 dL_law_864 dL_law_865 dL_law_866 dL_law_867 (by decide) rfl (scr_in (k := 3) (by decide) (by decide) hi hL) (by rw [scr_x (k := 3) (by decide) (by decide) hi hL]) ?_
  refine k_lawVI (pc := 868) (st := [.int v]) hX hcl lnL_113 dL_law_868 (t_m_feed (d := 1) (Nat.le_refl _) h2) rfl rfl rfl (by decide) (Nat.le_of_ble_eq_true rfl) ?_
  exact j_icmp_eq (pc := 871) (tgt := 938) hX dL_law_871 (by decide) (fun _ => nx _ _ h3) (fun z => absurd rfl z)
set_option maxHeartbeats 4000000 in
set_option maxRecDepth 100000 in
theorem lc_copy {X : jX} {b L i : Nat} {xs : Nat → Int32} {Inv : jS → jS → Prop} (hX : jOk X RL cL_law 4 300) (hS : jScr X b L xs) (hcl : 60 ≤ X.R.cells ∧ 32940 ≤ X.R.slots) (hi : i + 5 ≤ L) (hL : L ≤ 2560) (ho : Op_copy Inv) {c r : jS} (hI : Inv c r) (nx : ∀ c' r', Inv c' r' → J X 60 32940 jN (jE (jmix c' r')) [(1, .ref 0), (2, .ref 30), (3, .int (Int32.ofNat i))] [] 938) : J X 60 32940 jN (jE (jmix c r)) [(1, .ref 0), (2, .ref 30), (3, .int (Int32.ofNat i))] [] 876 := by
  obtain ⟨v, c', r', h1, h2, h3⟩ := ho c r hI
  refine j_aload_n (pc := 876) hX dL_law_876 rfl rfl ?_
  refine k_lawVI (pc := 877) (st := []) hX hcl lnL_114 dL_law_877 (t_xc_copy (d := 2) (Nat.le_refl _) h1) rfl rfl rfl (by decide) (Nat.le_of_ble_eq_true rfl) ?_
  refine j_aload_n (pc := 880) hX dL_law_880 rfl rfl ?_
  refine k_lawVI (pc := 881) (st := [.int v]) hX hcl lnL_117 dL_law_881 (t_m_copy (d := 0) (Nat.le_refl _) h2) rfl rfl rfl (by decide) (Nat.le_of_ble_eq_true rfl) ?_
  exact j_icmp_eq (pc := 884) (tgt := 938) hX dL_law_884 (by decide) (fun _ => nx _ _ h3) (fun z => absurd rfl z)
set_option maxHeartbeats 4000000 in
set_option maxRecDepth 100000 in
theorem lc_read {X : jX} {b L i : Nat} {xs : Nat → Int32} {Inv : jS → jS → Prop} (hX : jOk X RL cL_law 4 300) (hS : jScr X b L xs) (hcl : 60 ≤ X.R.cells ∧ 32940 ≤ X.R.slots) (hi : i + 5 ≤ L) (hL : L ≤ 2560) (ho : Op_read Inv) {c r : jS} (hI : Inv c r) (nx : ∀ c' r', Inv c' r' → J X 60 32940 jN (jE (jmix c' r')) [(1, .ref 0), (2, .ref 30), (3, .int (Int32.ofNat i))] [] 938) : J X 60 32940 jN (jE (jmix c r)) [(1, .ref 0), (2, .ref 30), (3, .int (Int32.ofNat i))] [] 889 := by
  obtain ⟨v, c', r', h1, h2, h3⟩ := ho c r hI
  refine j_aload_n (pc := 889) hX dL_law_889 rfl rfl ?_
  refine k_lawVI (pc := 890) (st := []) hX hcl lnL_118 dL_law_890 (t_xc_read (d := 266) (Nat.le_refl _) h1) rfl rfl rfl (by decide) (Nat.le_of_ble_eq_true rfl) ?_
  refine j_aload_n (pc := 893) hX dL_law_893 rfl rfl ?_
  refine k_lawVI (pc := 894) (st := [.int v]) hX hcl lnL_121 dL_law_894 (t_m_read (d := 4) (Nat.le_refl _) h2) rfl rfl rfl (by decide) (Nat.le_of_ble_eq_true rfl) ?_
  exact j_icmp_eq (pc := 897) (tgt := 938) hX dL_law_897 (by decide) (fun _ => nx _ _ h3) (fun z => absurd rfl z)
set_option maxHeartbeats 4000000 in
set_option maxRecDepth 100000 in
theorem lc_count {X : jX} {b L i : Nat} {xs : Nat → Int32} {Inv : jS → jS → Prop} (hX : jOk X RL cL_law 4 300) (hS : jScr X b L xs) (hcl : 60 ≤ X.R.cells ∧ 32940 ≤ X.R.slots) (hi : i + 5 ≤ L) (hL : L ≤ 2560) (ho : Op_count Inv) {c r : jS} (hI : Inv c r) (nx : ∀ c' r', Inv c' r' → J X 60 32940 jN (jE (jmix c' r')) [(1, .ref 0), (2, .ref 30), (3, .int (Int32.ofNat i))] [] 938) : J X 60 32940 jN (jE (jmix c r)) [(1, .ref 0), (2, .ref 30), (3, .int (Int32.ofNat i))] [] 902 := by
  obtain ⟨v, h1, h2, h3⟩ := ho c r (xs (i + 1)) hI
  refine j_aload_n (pc := 902) hX dL_law_902 rfl rfl ?_
  refine j_scr (pc := 903) (v := 1) (x := xs (i + 1)) hX hS dL_law_903 dL_law_904 dL_law_905 dL_law_906 dL_law_907 (by decide) rfl (scr_in (k := 1) (by decide) (by decide) hi hL) (by rw [scr_x (k := 1) (by decide) (by decide) hi hL]) ?_
  refine k_lawVI (pc := 908) (st := []) hX hcl lnL_122 dL_law_908 (t_xc_count (d := 1) (Nat.le_refl _) h1) rfl rfl rfl (by decide) (Nat.le_of_ble_eq_true rfl) ?_
  refine j_aload_n (pc := 911) hX dL_law_911 rfl rfl ?_
  refine j_scr (pc := 912) (v := 1) (x := xs (i + 1)) hX hS dL_law_912 dL_law_913 dL_law_914 dL_law_915 dL_law_916 (by decide) rfl (scr_in (k := 1) (by decide) (by decide) hi hL) (by rw [scr_x (k := 1) (by decide) (by decide) hi hL]) ?_
  refine k_lawVI (pc := 917) (st := [.int v]) hX hcl lnL_125 dL_law_917 (t_m_count (d := 0) (Nat.le_refl _) h2) rfl rfl rfl (by decide) (Nat.le_of_ble_eq_true rfl) ?_
  exact j_icmp_eq (pc := 920) (tgt := 938) hX dL_law_920 (by decide) (fun _ => nx _ _ h3) (fun z => absurd rfl z)
set_option maxHeartbeats 4000000 in
set_option maxRecDepth 100000 in
theorem lc_clear {X : jX} {b L i : Nat} {xs : Nat → Int32} {Inv : jS → jS → Prop} (hX : jOk X RL cL_law 4 300) (hS : jScr X b L xs) (hcl : 60 ≤ X.R.cells ∧ 32940 ≤ X.R.slots) (hi : i + 5 ≤ L) (hL : L ≤ 2560) (ho : Op_clear Inv) {c r : jS} (hI : Inv c r) (nx : ∀ c' r', Inv c' r' → J X 60 32940 jN (jE (jmix c' r')) [(1, .ref 0), (2, .ref 30), (3, .int (Int32.ofNat i))] [] 938) : J X 60 32940 jN (jE (jmix c r)) [(1, .ref 0), (2, .ref 30), (3, .int (Int32.ofNat i))] [] 925 := by
  obtain ⟨v, c', r', h1, h2, h3⟩ := ho c r hI
  refine j_aload_n (pc := 925) hX dL_law_925 rfl rfl ?_
  refine k_lawVI (pc := 926) (st := []) hX hcl lnL_126 dL_law_926 (t_xc_clear (d := 1) (Nat.le_refl _) h1) rfl rfl rfl (by decide) (Nat.le_of_ble_eq_true rfl) ?_
  refine j_aload_n (pc := 929) hX dL_law_929 rfl rfl ?_
  refine k_lawVI (pc := 930) (st := [.int v]) hX hcl lnL_129 dL_law_930 (t_m_clear (d := 0) (Nat.le_refl _) h2) rfl rfl rfl (by decide) (Nat.le_of_ble_eq_true rfl) ?_
  exact j_icmp_eq (pc := 933) (tgt := 938) hX dL_law_933 (by decide) (fun _ => nx _ _ h3) (fun z => absurd rfl z)
theorem law_go {i L : Nat} (h2 : i ≤ L) (hL : L ≤ 2560) (z : ¬ Int32.ofNat L - 5 < Int32.ofNat i) : i + 5 ≤ L := by
  rw [Int32.lt_iff_toInt_lt, show (5 : Int32) = Int32.ofInt 5 from rfl, ← Int32.ofInt_eq_ofNat, ← Int32.ofInt_eq_ofNat, ← Int32.ofInt_sub, Int32.toInt_ofInt_of_le (by omega) (by omega), Int32.toInt_ofInt_of_le (by omega) (by omega)] at z
  omega
set_option maxHeartbeats 4000000 in
set_option maxRecDepth 100000 in
theorem law_loop {X : jX} {b L : Nat} {xs : Nat → Int32} {Inv : jS → jS → Prop} (hX : jOk X RL cL_law 4 300) (hS : jScr X b L xs) (hcl : 60 ≤ X.R.cells ∧ 32940 ≤ X.R.slots) (hL : L ≤ 2560) (ho : Ops Inv) (he : ∀ (c r : jS) (i : Nat), J X 60 32940 jN (jE (jmix c r)) [(1, .ref 0), (2, .ref 30), (3, .int (Int32.ofNat i))] [] 944) : ∀ (k i : Nat) (c r : jS), L < i + k → i ≤ L → Inv c r → J X 60 32940 jN (jE (jmix c r)) [(1, .ref 0), (2, .ref 30), (3, .int (Int32.ofNat i))] [] 18 := by
  obtain ⟨o_arrow, o_side, o_declare, o_number, o_name, o_function, o_let, o_join, o_told, o_free, o_uses, o_type, o_fault, o_alike, o_least, o_put, o_step, o_run, o_ran, o_drop, o_print, o_at, o_feed, o_copy, o_read, o_count, o_clear⟩ := ho
  intro k
  induction k with
  | zero => intro i c r h1 h2; omega
  | succ k ih =>
    intro i c r h1 h2 hI
    refine j_iload_n (pc := 18) hX dL_law_18 rfl rfl ?_
    refine j_slen (pc := 19) hX hS dL_law_19 dL_law_20 ?_
    refine j_iconst (pc := 21) (v := 5) hX dL_law_21 (by decide) ?_
    refine j_isub (pc := 22) hX dL_law_22 ?_
    refine j_icmp_gt (pc := 23) (tgt := 944) hX dL_law_23 (by decide) (fun z => ?_) (fun z => ?_)
    · exact he c r i
    have hi : i + 5 ≤ L := law_go h2 hL z
    have nx : ∀ c' r', Inv c' r' → J X 60 32940 jN (jE (jmix c' r')) [(1, .ref 0), (2, .ref 30), (3, .int (Int32.ofNat i))] [] 938 := by
      intro c2 r2 h3
      refine j_iinc (pc := 938) hX dL_law_938 rfl (v := Int32.ofNat (i + 5)) (by rw [Int32.ofNat_add]; rfl) (by decide) (by decide) ?_
      refine j_goto (pc := 941) (tgt := 18) hX dL_law_941 (by decide) ?_
      refine j_sub (lv' := [(1, .ref 0), (2, .ref 30), (3, .int (Int32.ofNat (i + 5)))]) ⟨rfl, rfl, rfl, trivial⟩ ?_
      exact ih (i + 5) c2 r2 (by omega) hi h3
    refine j_scr0 (pc := 26) (x := xs i) hX hS dL_law_26 dL_law_27 dL_law_28 rfl (nJ_in hi hL) (by rw [nJ_x hi hL]) ?_
    refine j_bipush (pc := 29) (v := 31) hX dL_law_29 (by decide) ?_
    refine j_iand (pc := 31) hX dL_law_31 ?_
    by_cases z0 : (xs i &&& 31) = 0
    · refine j_tabEq (pc := 32) (tgt := 156) 0 hX dL_law_32 z0 (by decide) (by decide) rfl (by decide) ?_
      exact lc_arrow hX hS hcl hi hL o_arrow hI nx
    by_cases z1 : (xs i &&& 31) = 1
    · refine j_tabEq (pc := 32) (tgt := 189) 1 hX dL_law_32 z1 (by decide) (by decide) rfl (by decide) ?_
      exact lc_side hX hS hcl hi hL o_side hI nx
    by_cases z2 : (xs i &&& 31) = 2
    · refine j_tabEq (pc := 32) (tgt := 222) 2 hX dL_law_32 z2 (by decide) (by decide) rfl (by decide) ?_
      exact lc_declare hX hS hcl hi hL o_declare hI nx
    by_cases z3 : (xs i &&& 31) = 3
    · refine j_tabEq (pc := 32) (tgt := 255) 3 hX dL_law_32 z3 (by decide) (by decide) rfl (by decide) ?_
      exact lc_number hX hS hcl hi hL o_number hI nx
    by_cases z4 : (xs i &&& 31) = 4
    · refine j_tabEq (pc := 32) (tgt := 278) 4 hX dL_law_32 z4 (by decide) (by decide) rfl (by decide) ?_
      exact lc_name hX hS hcl hi hL o_name hI nx
    by_cases z5 : (xs i &&& 31) = 5
    · refine j_tabEq (pc := 32) (tgt := 301) 5 hX dL_law_32 z5 (by decide) (by decide) rfl (by decide) ?_
      exact lc_function hX hS hcl hi hL o_function hI nx
    by_cases z6 : (xs i &&& 31) = 6
    · refine j_tabEq (pc := 32) (tgt := 344) 6 hX dL_law_32 z6 (by decide) (by decide) rfl (by decide) ?_
      exact lc_let hX hS hcl hi hL o_let hI nx
    by_cases z7 : (xs i &&& 31) = 7
    · refine j_tabEq (pc := 32) (tgt := 387) 7 hX dL_law_32 z7 (by decide) (by decide) rfl (by decide) ?_
      exact lc_join hX hS hcl hi hL o_join hI nx
    by_cases z8 : (xs i &&& 31) = 8
    · refine j_tabEq (pc := 32) (tgt := 440) 8 hX dL_law_32 z8 (by decide) (by decide) rfl (by decide) ?_
      exact lc_told hX hS hcl hi hL o_told hI nx
    by_cases z9 : (xs i &&& 31) = 9
    · refine j_tabEq (pc := 32) (tgt := 474) 9 hX dL_law_32 z9 (by decide) (by decide) rfl (by decide) ?_
      exact lc_free hX hS hcl hi hL o_free hI nx
    by_cases z10 : (xs i &&& 31) = 10
    · refine j_tabEq (pc := 32) (tgt := 497) 10 hX dL_law_32 z10 (by decide) (by decide) rfl (by decide) ?_
      exact lc_uses hX hS hcl hi hL o_uses hI nx
    by_cases z11 : (xs i &&& 31) = 11
    · refine j_tabEq (pc := 32) (tgt := 530) 11 hX dL_law_32 z11 (by decide) (by decide) rfl (by decide) ?_
      exact lc_type hX hS hcl hi hL o_type hI nx
    by_cases z12 : (xs i &&& 31) = 12
    · refine j_tabEq (pc := 32) (tgt := 553) 12 hX dL_law_32 z12 (by decide) (by decide) rfl (by decide) ?_
      exact lc_fault hX hS hcl hi hL o_fault hI nx
    by_cases z13 : (xs i &&& 31) = 13
    · refine j_tabEq (pc := 32) (tgt := 576) 13 hX dL_law_32 z13 (by decide) (by decide) rfl (by decide) ?_
      exact lc_alike hX hS hcl hi hL o_alike hI nx
    by_cases z14 : (xs i &&& 31) = 14
    · refine j_tabEq (pc := 32) (tgt := 609) 14 hX dL_law_32 z14 (by decide) (by decide) rfl (by decide) ?_
      exact lc_least hX hS hcl hi hL o_least hI nx
    by_cases z15 : (xs i &&& 31) = 15
    · refine j_tabEq (pc := 32) (tgt := 632) 15 hX dL_law_32 z15 (by decide) (by decide) rfl (by decide) ?_
      exact lc_put hX hS hcl hi hL o_put hI nx
    by_cases z16 : (xs i &&& 31) = 16
    · refine j_tabEq (pc := 32) (tgt := 675) 16 hX dL_law_32 z16 (by decide) (by decide) rfl (by decide) ?_
      exact lc_step hX hS hcl hi hL o_step hI nx
    by_cases z17 : (xs i &&& 31) = 17
    · refine j_tabEq (pc := 32) (tgt := 698) 17 hX dL_law_32 z17 (by decide) (by decide) rfl (by decide) ?_
      exact lc_run hX hS hcl hi hL o_run hI nx
    by_cases z18 : (xs i &&& 31) = 18
    · refine j_tabEq (pc := 32) (tgt := 731) 18 hX dL_law_32 z18 (by decide) (by decide) rfl (by decide) ?_
      exact lc_ran hX hS hcl hi hL o_ran hI nx
    by_cases z19 : (xs i &&& 31) = 19
    · refine j_tabEq (pc := 32) (tgt := 744) 19 hX dL_law_32 z19 (by decide) (by decide) rfl (by decide) ?_
      exact lc_drop hX hS hcl hi hL o_drop hI nx
    by_cases z20 : (xs i &&& 31) = 20
    · refine j_tabEq (pc := 32) (tgt := 767) 20 hX dL_law_32 z20 (by decide) (by decide) rfl (by decide) ?_
      exact lc_print hX hS hcl hi hL o_print hI nx
    by_cases z21 : (xs i &&& 31) = 21
    · refine j_tabEq (pc := 32) (tgt := 790) 21 hX dL_law_32 z21 (by decide) (by decide) rfl (by decide) ?_
      exact lc_at hX hS hcl hi hL o_at hI nx
    by_cases z22 : (xs i &&& 31) = 22
    · refine j_tabEq (pc := 32) (tgt := 813) 22 hX dL_law_32 z22 (by decide) (by decide) rfl (by decide) ?_
      exact lc_feed hX hS hcl hi hL o_feed hI nx
    by_cases z23 : (xs i &&& 31) = 23
    · refine j_tabEq (pc := 32) (tgt := 876) 23 hX dL_law_32 z23 (by decide) (by decide) rfl (by decide) ?_
      exact lc_copy hX hS hcl hi hL o_copy hI nx
    by_cases z24 : (xs i &&& 31) = 24
    · refine j_tabEq (pc := 32) (tgt := 889) 24 hX dL_law_32 z24 (by decide) (by decide) rfl (by decide) ?_
      exact lc_read hX hS hcl hi hL o_read hI nx
    by_cases z25 : (xs i &&& 31) = 25
    · refine j_tabEq (pc := 32) (tgt := 902) 25 hX dL_law_32 z25 (by decide) (by decide) rfl (by decide) ?_
      exact lc_count hX hS hcl hi hL o_count hI nx
    by_cases z26 : (xs i &&& 31) = 26
    · refine j_tabEq (pc := 32) (tgt := 925) 26 hX dL_law_32 z26 (by decide) (by decide) rfl (by decide) ?_
      exact lc_clear hX hS hcl hi hL o_clear hI nx
    refine j_tabOut (pc := 32) (tgt := 938) hX dL_law_32 (by have y0 := lv_neT (a := 0) z0 (by decide); have y1 := lv_neT (a := 1) z1 (by decide); have y2 := lv_neT (a := 2) z2 (by decide); have y3 := lv_neT (a := 3) z3 (by decide); have y4 := lv_neT (a := 4) z4 (by decide); have y5 := lv_neT (a := 5) z5 (by decide); have y6 := lv_neT (a := 6) z6 (by decide); have y7 := lv_neT (a := 7) z7 (by decide); have y8 := lv_neT (a := 8) z8 (by decide); have y9 := lv_neT (a := 9) z9 (by decide); have y10 := lv_neT (a := 10) z10 (by decide); have y11 := lv_neT (a := 11) z11 (by decide); have y12 := lv_neT (a := 12) z12 (by decide); have y13 := lv_neT (a := 13) z13 (by decide); have y14 := lv_neT (a := 14) z14 (by decide); have y15 := lv_neT (a := 15) z15 (by decide); have y16 := lv_neT (a := 16) z16 (by decide); have y17 := lv_neT (a := 17) z17 (by decide); have y18 := lv_neT (a := 18) z18 (by decide); have y19 := lv_neT (a := 19) z19 (by decide); have y20 := lv_neT (a := 20) z20 (by decide); have y21 := lv_neT (a := 21) z21 (by decide); have y22 := lv_neT (a := 22) z22 (by decide); have y23 := lv_neT (a := 23) z23 (by decide); have y24 := lv_neT (a := 24) z24 (by decide); have y25 := lv_neT (a := 25) z25 (by decide); have y26 := lv_neT (a := 26) z26 (by decide); omega) (by decide) ?_
    exact nx c r hI
