/-! THE LAW'S START, 4: from the small machine to the law's own end -/
def mx_h0 (L : Nat) (xs : Nat → Int32) : mxH := (0, 0, 0, fun a j => if a = 1 then xs j else 0, fun a j => if a = 1 ∧ j = 0 then L else 0, fun _ _ => 0)
theorem mx_no_locs {s t : State} {L : List Loc} {k n : Nat} (h : s.sameButNew t L k n) (hL : ∀ z ∈ L, s.heap.size ≤ z.base) : s.sameButNew t [] k n := by
  obtain ⟨g1, g2, g3, g4, g5, g6⟩ := h
  refine ⟨g1, g2, g3, g4, g5, fun q cell hq => ?_⟩
  obtain ⟨c9, e1, e2, e3, e4⟩ := g6 q cell hq
  exact ⟨c9, e1, e2, e3, fun i _ => e4 i (fun hm => absurd (hL _ hm) (Nat.not_le_of_lt (Array.getElem?_eq_some_iff.mp hq).1))⟩
set_option maxHeartbeats 4000000 in
theorem mx_run {p : Program} {l : Launch} {e : Env} {s : State} {m : MethodId} {below : List Frame} {meth : Method} {c : Code} {b L : Nat} {xs : Nat → Int32} (hall : ∀ y, y < 347 → mx_ok y = true) (hl : l.stackTraces = false) (hx : p.tables.exec = Jvm.exec) (hb : c.code = mxB 346) (hr : meth.sig.returnType = mxR 346) (hml : c.maxLocals = mxL 346) (hown : s.vm.findClass (mxCn (mxOw 346)) = some m.cls) (hts : ∀ w ∈ lw_tbl, w.before #[Value.ref b] s = true) (hX : va_X b L xs s s.heap) (hbl : b < s.heap.size) (hlocks : meth.locks = false) (hgv : (Jvm.Cond.and given_1 narrow_1).before #[Value.ref b] s = true) (hname : meth.name = (mxN 346).name) (htab : c.exceptionTable.toList = tableOf (mxHh 346))
    (hwp : mx_wp 1000 346 0 (mx_fr 346 [.ref 1]) [] (mx_h0 L xs) (fun o h' => o = .inl (some (.int 1)) ∧ mx_cs h' ≤ 601024 ∧ mx_n h' ≤ 7293034)) :
    W p l e room_1 s m #[Value.ref b] below meth c s.heap [] 0 0 (lw_Z below #[Value.ref b] s) (entryFrame m ([Value.ref b] : List Value).toArray 7) := by
  obtain ⟨G, hN, hxs, hLL, hb1, C⟩ := mx_start hall hl hx hb hr hml hown hts hX hbl hlocks hgv hname htab
  obtain ⟨n, o, h', hgo, rfl, hc, hs⟩ := hwp
  have hG : g_ok G := C.2.2.2.2.2.2.2.2.2.1
  have e0 : mx_cs (mx_h0 L xs) = 0 := rfl
  have e1 : mx_n (mx_h0 L xs) = 0 := rfl
  have hRep : mx_Rep G (mx_h0 L xs) s.heap := ⟨fun _ => by rw [hN]; rfl, fun k q hq => (by cases hq), ⟨by rw [hLL]; rfl, fun j hj => by rw [hxs]; rfl⟩, Nat.zero_le _⟩
  have hmap : ([.ref 1] : List Value).map (mx_rv G) = [.ref b] := by
    show [mx_rc G 1] = _
    rw [mx_rc_const G (by omega) (by omega) (by omega), hb1]
  have hE := mx_entry G hG (y := 346) (as := [.ref 1]) (fun v hv => by cases List.mem_singleton.mp hv; rfl) (by decide +kernel) (by decide +kernel)
  rw [hmap] at hE
  have z := mx_sound hall n 1000 346 0 (mx_fr 346 [.ref 1]) [] (mx_h0 L xs) h' _ hgo G p l e room_1 s m #[Value.ref b] below meth c (mx_h0 L xs) C (by decide) (by decide) (mx_le_refl _) (by rw [e0]; exact hc) (by rw [e1]; exact hs) s.heap [] _ hRep ⟨Nat.le_refl _, fun _ _ _ => rfl, fun _ hq => absurd hq List.not_mem_nil⟩ hE
  rw [Nat.sub_self, Nat.sub_self, mx_pc0 (mx_ok0_inv (hall 346 (by decide))).2.2.2.2.2.2.1] at z
  intro T hT X
  rw [lg_entry_eq] at *
  obtain ⟨t, a1, oc, b1, b2, b3⟩ := z T hT X
  refine ⟨t, a1, oc, b1, b2, ?_⟩
  rcases b3 with ⟨⟨⟨v, hv, ho⟩, -, -⟩, Lc, hFE, hfree⟩ | ⟨q, -, E, ce, Lc, ⟨k, hk, -⟩, -⟩
  · cases hv
    obtain ⟨f1, f2, f3⟩ := hFE
    refine ⟨ho, f1, f2, (mx_no_locs f3 (fun z9 hz => ?_)).mono (by rw [e0]; exact hc) (by rw [e1]; exact hs)⟩
    have h9 : g_N G ≤ z9.base := hfree z9 hz
    rw [hN] at h9
    exact h9
  · cases hk
