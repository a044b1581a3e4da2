theorem jfl_at {v : Int32} {f : Nat → Int32} : ∀ (k j : Nat), j < k → jfl v k f j = v
  | 0, j, h => absurd h (Nat.not_lt_zero j)
  | k + 1, j, h => by
    show upd (jfl v k f) k v j = v
    by_cases e : j = k
    · subst e; rw [upd_s]
    · rw [upd_n e]; exact jfl_at k j (by omega)
theorem inv_0 : Inv st0 st0 := by
  have r18 : st0 18 = jfl (-2) 26 zf := rfl
  have r34 : st0 34 = jfl (-2) 26 zf := rfl
  refine ⟨1, 0, ⟨rfl, rfl, by omega, by omega, ?_, ⟨rfl, rfl, rfl⟩, fun i h1 h2 => by omega⟩, ⟨rfl, rfl, by omega, fun t ht => absurd ht (Nat.not_lt_zero t)⟩, ?_, ⟨rfl, rfl, rfl⟩, ⟨0, by omega, rfl, rfl, fun i hi => absurd hi (Nat.not_lt_zero i)⟩, ⟨0, by omega, rfl, rfl, fun i hi => absurd hi (Nat.not_lt_zero i)⟩⟩
  · intro i hi
    obtain rfl : i = 0 := by omega
    exact ⟨rfl, rfl, rfl, rfl, by decide⟩
  · intro x hx
    rw [r18, r34]
    exact ⟨rfl, Or.inl (jfl_at 26 x hx)⟩
theorem ops_ok : Ops Inv := ⟨op_arrow, op_side, op_declare, op_number, op_name, op_function, op_let, op_join, op_told, op_free, op_uses, op_type, op_fault, op_alike, op_least, op_put, op_step, op_run, op_ran, op_drop, op_print, op_at, op_feed, op_copy, op_read, op_count, op_clear⟩
