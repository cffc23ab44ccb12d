/-! THE TAIL, tried with what is still to be shown as a premise -/
def mx_goal : Prop := ∀ (L : Nat) (xs : Nat → Int32), L ≤ 3072 → mx_wp 1000 346 0 (mx_fr 346 [.ref 1]) [] (mx_h0 L xs) (fun o h' => o = .inl (some (.int 1)) ∧ mx_cs h' ≤ 601024 ∧ mx_n h' ≤ 7293034)
theorem mx_notrace {l : Launch} (h : l.flags = flags0) : l.stackTraces = false := by
  unfold Launch.stackTraces
  rw [h]
  decide
theorem mx_begin (hall : ∀ y, y < 347 → mx_ok y = true) (hg : mx_goal) {p : Program} {e : Env} {s : State} {m : MethodId} {below : List Frame} {meth : Method} {c : Code} (l : Launch) (hflags : l.flags = flags0) {b L : Nat} {xs : Nat → Int32} (hL : L ≤ 3072) (C0 : lw_At p s m meth c b L xs) (hname : meth.name = x.name) (htab : ∀ z ∈ c.exceptionTable.toList, False) : W p l e room_1 s m #[Value.ref b] below meth c s.heap [] 0 0 (lw_Z below #[Value.ref b] s) (entryFrame m ([Value.ref b] : List Value).toArray 7) := by
  obtain ⟨h1, h2, h3, h4, h5, h6, h7, h8, h9, h10⟩ := C0
  exact mx_run hall (mx_notrace hflags) h1 h2 h3 h4 h5 h6 h7 h8 h9 h10 hname (by rw [List.eq_nil_iff_forall_not_mem.mpr htab]; rfl) (hg L xs hL)
