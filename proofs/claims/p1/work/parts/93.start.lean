/-! ===== from the entry ===== -/
theorem one_H : lw_H lw_1 := ⟨one_put, one_cut, one_T inv_token, one_T inv_setPage, one_compile, one_isAsAnew, one_C inv_settled, one_C inv_ran, one_C inv_taken, one_C inv_kept, one_C inv_laid, one_T inv_thing, one_C inv_faults, one_T inv_fault, one_T inv_answer, one_T inv_valueOf⟩
theorem one_0 : lw_1 0 w_0 := by
  unfold lw_1
  rw [if_pos rfl]
theorem one_x : ∀ k w, k ≤ 1 → lw_1 k w → w.1 0 0 ≤ 1 := fun k w _ h => by
  unfold lw_1 at h
  split at h
  · rw [h]
    decide
  · exact h.2
theorem whole_start {p : Program} {e : Env} {s : State} {m : MethodId} {below : List Frame} {meth : Method} {c : Code} (l : Launch) (hflags : l.flags = flags0) {b L : Nat} {xs : Nat → Int32} (hL : L ≤ 5) (C0 : lw_At p s m meth c b L xs) : W p l e room_1 s m #[Value.ref b] below meth c s.heap [] 0 0 (lw_Z below #[Value.ref b] s) (entryFrame m ([Value.ref b] : List Value).toArray 7) :=
  whole_of one_H one_0 one_x l hflags hL C0
