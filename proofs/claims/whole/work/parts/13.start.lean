def R_law : String := "CoreTermsLaw"
def lw_P (b : Addr) (xs : List Int32) (args : Array Value) (s : State) : Prop := args = #[.ref b] ∧ s.IntsAt b xs ∧ xs.length ≤ 2560 ∧ (Jvm.Cond.and given_1 narrow_1).before args s = true
def lw_Q (_ : Array Value) (s : State) (o : Outcome) (t : State) : Prop := o = .returned (some (.int 1)) ∧ Framed s o t [] 600000 7302250
def lw_Z (below : List Frame) (a : Array Value) (s : State) : State → Prop := fun t => ∃ o, t.status = .running ∧ Ended t below o ∧ lw_Q a s o t
theorem lw_ret {p : Program} {l : Launch} {e : Env} {s : State} {m : MethodId} {below : List Frame} {meth : Method} {c : Code} {b : Nat} (hx : p.tables.exec = Jvm.exec) (hb : c.code = code) (hr : meth.sig.returnType = ret) (hlocks : meth.locks = false) {pc : Nat} {H : Heap} {ls : Array Slot} (hdg : decode code pc = .ok (.ireturn, 1)) : W p l e room_1 s m #[Value.ref b] below meth c H [] 600000 7302250 (lw_Z below #[Value.ref b] s) (F0 m pc ls [.int 1]) := by
  intro T hT X
  obtain ⟨fs, hret, hrun, hended, hW, hframe⟩ := X.leave (v := some (.int 1)) (hlocks := hlocks) (fun h => by rw [hr] at h; cases h)
  have hmeth' : T.vm.method? m = some meth := X.method'
  refine ⟨T.setFrames fs, ?_, .returned (some (.int 1)), hrun, hended, rfl, ⟨_, rfl⟩, hW, hframe⟩
  jvm_step X.here [X.here.top, hx, hb, hdg, hmeth', hr, ret, narrow_b1]
  (try refine ⟨rfl, ?_⟩); (try refine ⟨rfl, ?_⟩)
  first | (intro acts; rw [hret _ acts rfl rfl rfl]) | rw [hret _ _ rfl rfl rfl]
  exact Steps.refl _
def lw_At (p : Program) (s : State) (m : MethodId) (meth : Method) (c : Code) (b L : Nat) (xs : Nat → Int32) : Prop :=
  p.tables.exec = Jvm.exec ∧ c.code = code ∧ meth.sig.returnType = ret ∧ c.maxLocals = 4 ∧ s.vm.findClass R_law = some m.cls ∧ (∀ w ∈ lw_tbl, w.before #[Value.ref b] s = true) ∧ va_X b L xs s s.heap ∧ b < s.heap.size ∧ meth.locks = false ∧ (Jvm.Cond.and given_1 narrow_1).before #[Value.ref b] s = true
def jokb : List Value → Bool
  | [] => true
  | .ref _ :: _ => false
  | _ :: r => jokb r
theorem jokl_b : ∀ {l : List Value}, jokb l = true → jokl 0 l
  | [], _ => trivial
  | v :: r, h => by
    cases v with
    | ref k => cases h
    | _ => exact ⟨trivial, jokl_b h⟩
def st0 : jS := fun p => match hl_m90[p]? with
  | some (.inl (_, _, .inl f)) => f
  | some (.inr (_, fs)) => fun k => match fs[k]? with
    | some (.int v) => v
    | _ => 0
  | _ => zf
set_option maxRecDepth 100000 in
theorem st0_ok : ∀ i, i < 60 → jHl hl_m90 i = jE (jmix st0 st0) i
  | 0, _ => rfl
  | 1, _ => rfl
  | 2, _ => rfl
  | 3, _ => rfl
  | 4, _ => rfl
  | 5, _ => rfl
  | 6, _ => rfl
  | 7, _ => rfl
  | 8, _ => rfl
  | 9, _ => rfl
  | 10, _ => rfl
  | 11, _ => rfl
  | 12, _ => rfl
  | 13, _ => rfl
  | 14, _ => rfl
  | 15, _ => rfl
  | 16, _ => rfl
  | 17, _ => rfl
  | 18, _ => rfl
  | 19, _ => rfl
  | 20, _ => rfl
  | 21, _ => rfl
  | 22, _ => rfl
  | 23, _ => rfl
  | 24, _ => rfl
  | 25, _ => rfl
  | 26, _ => rfl
  | 27, _ => rfl
  | 28, _ => rfl
  | 29, _ => rfl
  | 30, _ => rfl
  | 31, _ => rfl
  | 32, _ => rfl
  | 33, _ => rfl
  | 34, _ => rfl
  | 35, _ => rfl
  | 36, _ => rfl
  | 37, _ => rfl
  | 38, _ => rfl
  | 39, _ => rfl
  | 40, _ => rfl
  | 41, _ => rfl
  | 42, _ => rfl
  | 43, _ => rfl
  | 44, _ => rfl
  | 45, _ => rfl
  | 46, _ => rfl
  | 47, _ => rfl
  | 48, _ => rfl
  | 49, _ => rfl
  | 50, _ => rfl
  | 51, _ => rfl
  | 52, _ => rfl
  | 53, _ => rfl
  | 54, _ => rfl
  | 55, _ => rfl
  | 56, _ => rfl
  | 57, _ => rfl
  | 58, _ => rfl
  | 59, _ => rfl
  | i + 60, h => absurd h (by omega)

set_option maxHeartbeats 4000000 in
set_option maxRecDepth 100000 in
theorem whole_start_of {p : Program} {e : Env} {s : State} {m : MethodId} {below : List Frame} {meth : Method} {c : Code} (l : Launch) {b L : Nat} {xs : Nat → Int32} {Inv : jS → jS → Prop} (ho : Ops Inv) (hI : Inv st0 st0) (hL : L ≤ 2560) (C0 : lw_At p s m meth c b L xs) : W p l e room_1 s m #[Value.ref b] below meth c s.heap [] 0 0 (lw_Z below #[Value.ref b] s) (entryFrame m ([Value.ref b] : List Value).toArray 4) := by
  obtain ⟨hx, hb, hr, hml, hown, hts, hXX, hbl, hlocks, hgv⟩ := id C0
  have htj : ∀ w ∈ jTb, w.before #[Value.ref b] s = true := fun w hw => hts w (jTb_in w hw)
  obtain ⟨c0, iS0, hK0⟩ := u_known (C := RX0) (T := TX0) (N := 3) (n := 3) htj inlX0 (htj _ (mr_2 _ (List.mem_of_getElem? (i := 2) rfl)))
  obtain ⟨c1, iS1, hK1⟩ := u_known (C := RX1) (T := TX1) (N := 1) (n := 1) htj inlX1 (htj _ (mr_2 _ (List.mem_of_getElem? (i := 14) rfl)))
  obtain ⟨c2, iS2, hK2⟩ := u_known (C := RX2) (T := TX2) (N := 4) (n := 4) htj inlX2 (htj _ (mr_2 _ (List.mem_of_getElem? (i := 18) rfl)))
  obtain ⟨c3, iS3, hK3⟩ := u_known (C := RX3) (T := TX3) (N := 1) (n := 1) htj inlX3 (htj _ (mr_2 _ (List.mem_of_getElem? (i := 6) rfl)))
  obtain ⟨c4, iS4, hK4⟩ := u_known (C := RX4) (T := TX4) (N := 5) (n := 5) htj inlX4 (htj _ (mr_2 _ (List.mem_of_getElem? (i := 22) rfl)))
  obtain ⟨c5, iS5, hK5⟩ := u_known (C := RX5) (T := TX5) (N := 2) (n := 2) htj inlX5 (htj _ (mr_2 _ (List.mem_of_getElem? (i := 10) rfl)))
  obtain ⟨c6, iS6, hK6⟩ := u_known (C := RX6) (T := TX6) (N := 13) (n := 13) htj inlX6 (htj _ (mr_1 _ (List.mem_of_getElem? (i := 18) rfl)))
  obtain ⟨c7, iS7, hK7⟩ := u_known (C := RX7) (T := TX7) (N := 4) (n := 4) htj inlX7 (htj _ (mr_1 _ (List.mem_of_getElem? (i := 14) rfl)))
  obtain ⟨c8, iS8, hK8⟩ := u_known (C := RX8) (T := TX8) (N := 6) (n := 6) htj inlX8 (htj _ (mr_1 _ (List.mem_of_getElem? (i := 22) rfl)))
  obtain ⟨c9, iS9, hK9⟩ := u_known (C := RX9) (T := TX9) (N := 10) (n := 10) htj inlX9 (htj _ (mr_1 _ (List.mem_of_getElem? (i := 1) rfl)))
  obtain ⟨c10, iS10, hK10⟩ := u_known (C := RX10) (T := TX10) (N := 43) (n := 43) htj inlX10 (htj _ (mr_1 _ (List.mem_of_getElem? (i := 4) rfl)))
  obtain ⟨dC, dI, hKc⟩ : ∃ (dC : Nat → ClassId) (dI : Nat → Nat → Nat), ∀ (k : Nat) (q : vw_C), vwCl[k]? = some q → u_Kn s q.1 q.2.1 q.2.2 (dC k) (dI k) := by
    refine ⟨fun k => match k with | 0 => c0 | 1 => c1 | 2 => c2 | 3 => c3 | 4 => c4 | 5 => c5 | 6 => c6 | 7 => c7 | 8 => c8 | 9 => c9 | _ => c10, fun k => match k with | 0 => iS0 | 1 => iS1 | 2 => iS2 | 3 => iS3 | 4 => iS4 | 5 => iS5 | 6 => iS6 | 7 => iS7 | 8 => iS8 | 9 => iS9 | _ => iS10, ?_⟩
    intro k q hq
    match k, hq with
    | 0, hq => cases hq; exact hK0
    | 1, hq => cases hq; exact hK1
    | 2, hq => cases hq; exact hK2
    | 3, hq => cases hq; exact hK3
    | 4, hq => cases hq; exact hK4
    | 5, hq => cases hq; exact hK5
    | 6, hq => cases hq; exact hK6
    | 7, hq => cases hq; exact hK7
    | 8, hq => cases hq; exact hK8
    | 9, hq => cases hq; exact hK9
    | 10, hq => cases hq; exact hK10
    | k + 11, hq => simp [vwCl] at hq
  obtain ⟨cI, kI, oI, aI1, aI2, aI3⟩ := Cond.arrayClass_spec (htj (.arrayClass .int) (mr_3 _ (List.mem_of_getElem? (i := 6) rfl)))
  obtain ⟨cB, kB, oB, aB1, aB2, aB3⟩ := Cond.arrayClass_spec (htj (.arrayClass .byte) (mr_5 _ (List.mem_of_getElem? (i := 17) rfl)))
  have hK : va_K (dC, dI) vwCl (jty (fun k => match k with | 0 => cI | _ => cB)) s := by
    refine ⟨hKc, ?_⟩
    intro k q hq
    match k, hq with
    | 0, hq => cases hq; exact ⟨fun N z => ⟨(fun k h => by cases h), kI, aI2, oI, aI3⟩, aI1⟩
    | 1, hq => cases hq; exact ⟨fun N z => ⟨(fun k h => by cases h), kB, aB2, oB, aB3⟩, aB1⟩
    | k + 2, hq => simp [jty] at hq
  have hN : jNk s := fun q hq => va_Nw.of rfl (hts _ (jNs_in q hq))
  obtain ⟨X, hXe⟩ : ∃ X : jX, X = ((p, l, e, room_1, s), (m, #[Value.ref b], below, meth, c), (lw_Z below #[Value.ref b] s, (fun q => s.heap.size ≤ q), (dC, dI), (fun k => match k with | 0 => cI | _ => cB)), (0, (fun _ => 0), [(0, .ref b)])) := ⟨_, rfl⟩
  have hX : jOk X RL cL_law 4 300 := by
    rw [hXe]
    exact ⟨hx, hb, hml, hown, htj, hK, fun _ h => h, (by decide : 300 ≤ 2048), (by decide : 64 * 300 ≤ 84000), hN, fun q hq => by
      have hq : q ∈ [(0, Value.ref b)] := hq
      rw [List.mem_singleton] at hq
      subst hq
      exact ⟨rfl, rfl⟩⟩
  have hS : jScr X b L xs := by
    rw [hXe]
    exact ⟨rfl, hXX, hbl, Nat.not_le.mpr hbl⟩
  have hRc : X.R.cells = 600000 := by rw [hXe]; rfl
  have hRs : X.R.slots = 7302250 := by rw [hXe]; rfl
  have hcl : 60 ≤ X.R.cells ∧ 32940 ≤ X.R.slots := by rw [hRc, hRs]; exact ⟨by decide, by decide⟩
  have he : ∀ (c r : jS) (i : Nat), J X 60 32940 jN (jE (jmix c r)) [(1, .ref 0), (2, .ref 30), (3, .int (Int32.ofNat i))] [] 944 := by
    intro c1 r1 i
    refine j_iconst (pc := 944) (v := 1) hX dL_law_944 (by decide) ?_
    rw [hXe]
    intro ad H locs ls q
    refine W.widen (k := 600000) (n := 7302250) (by decide) (by decide) ?_
    refine va_forget (fun z hz => q.2.1.2.2.2.2 z hz) ?_
    exact lw_ret hx hb hr hlocks dL_law_945
  have J0 : J X 0 0 0 (jHl hl_x0) [] [] 0 := by
    refine c_new (pc := 0) (ty := tyX9) [.null, .null, .null, .null, .null, .null, .null, .null, .null, .int 0] hl_x1 hX dL_law_0 rfl inlX9 tyX9_ok (mr_1 _ (List.mem_of_getElem? (i := 0) rfl)) (mr_1 _ (List.mem_of_getElem? (i := 1) rfl)) (mr_1 _ (List.mem_of_getElem? (i := 2) rfl)) (by decide) (fun _ => rfl) (jokl_b rfl) (cells' := 1) (slots' := 10) (n' := 1) rfl rfl rfl (by rw [hRc]; decide) (by rw [hRs]; decide) rfl rfl ?_
    refine j_dup (pc := 3) hX dL_law_3 rfl ?_
    refine c_call (pc := 4) (cells' := 30) (slots' := 9273) (n' := 30) (as := []) (st := [.ref 0]) hX lk_init9 (mr_1 _ (List.mem_of_getElem? (i := 7) rfl)) (mr_1 _ (List.mem_of_getElem? (i := 8) rfl)) rfl rfl dL_law_4 (ct_x_9) rfl rfl (by decide) rfl rfl (Nat.le_of_ble_eq_true rfl) rfl rfl (by rw [hRc]; decide) (by rw [hRs]; decide) ?_
    refine j_astore_n (pc := 7) hX dL_law_7 rfl (by decide) (by decide) ?_
    refine c_new (pc := 8) (ty := tyX10) [.int 0, .null, .null, .null, .null, .int 0, .null, .null, .null, .null, .null, .null, .null, .null, .int 0, .null, .null, .null, .null, .null, .null, .null, .int 0, .null, .int 0, .int 0, .null, .null, .int 0, .null, .null, .int 0, .null, .int 0, .null, .int 0, .int 0, .null, .null, .null, .int 0, .int 0, .int 0] hl_m1 hX dL_law_8 rfl inlX10 tyX10_ok (mr_1 _ (List.mem_of_getElem? (i := 3) rfl)) (mr_1 _ (List.mem_of_getElem? (i := 4) rfl)) (mr_1 _ (List.mem_of_getElem? (i := 5) rfl)) (by decide) (fun _ => rfl) (jokl_b rfl) (cells' := 31) (slots' := 9316) (n' := 31) rfl rfl rfl (by rw [hRc]; decide) (by rw [hRs]; decide) rfl rfl ?_
    refine j_dup (pc := 11) hX dL_law_11 rfl ?_
    refine c_call (pc := 12) (cells' := 60) (slots' := 32940) (n' := 60) (as := []) (st := [.ref 30]) hX lk_init10 (mr_6 _ (List.mem_of_getElem? (i := 7) rfl)) (mr_6 _ (List.mem_of_getElem? (i := 8) rfl)) rfl rfl dL_law_12 (ct_m_10) rfl rfl (by decide) rfl rfl (Nat.le_of_ble_eq_true rfl) rfl rfl (by rw [hRc]; decide) (by rw [hRs]; decide) ?_
    refine j_astore_n (pc := 15) hX dL_law_15 rfl (by decide) (by decide) ?_
    refine j_iconst (pc := 16) (v := 0) hX dL_law_16 (by decide) ?_
    refine j_istore_n (pc := 17) hX dL_law_17 rfl (by decide) (by decide) ?_
    refine j_sub (lv' := [(1, .ref 0), (2, .ref 30), (3, .int (Int32.ofNat 0))]) ⟨rfl, rfl, rfl, trivial⟩ ?_
    refine j_heq (h' := jE (jmix st0 st0)) st0_ok ?_
    exact law_loop hX hS hcl hL ho he (L + 1) 0 st0 st0 (by omega) (Nat.zero_le L) hI
  have hl := lv_entry ([.ref b]) (n := 4) (Nat.le_of_ble_eq_true rfl)
  rw [lg_entry_eq]
  rw [hXe] at J0
  exact J0 (fun _ => 0) s.heap [] _ ⟨⟨fun _ _ => rfl, Nat.le_refl 0⟩, ⟨fun k q h => by simp [jW] at h, ⟨fun i j p q h => by simp [jW] at h, fun k q h => by simp [jW] at h⟩, va_S.rf⟩, by rw [show (c.maxLocals) = 4 from hml]; exact hl, trivial, fun q hq => (List.not_mem_nil hq).elim, fun i hi => absurd hi (Nat.not_lt_zero i)⟩
