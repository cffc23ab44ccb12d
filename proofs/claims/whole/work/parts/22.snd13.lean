/-! SOUNDNESS, 13: calls -/
theorem mx_Vt_k : ∀ y ∈ mxVt, mxHh y = [] := by decide +kernel
theorem mx_It_k : ∀ y ∈ mxIt, (mxN y).name = "<init>" ∧ mxRc y ≠ 0 ∧ mxHh y = [] := by decide +kernel
theorem mx_wd_code {y : Nat} (h : mxHh y = []) : mx_wd y = [Cond.code (mxN y) (mxB y) (mxL y) (mxR y)] := by unfold mx_wd; rw [if_pos h]
theorem mx_wd_with {y : Nat} (h : ¬ mxHh y = []) : mx_wd y = [Cond.codeWith (mxN y) (mxB y) (mxL y) (mxR y) (mxHh y)] := by unfold mx_wd; rw [if_neg h]
theorem mx_ok0_inv {y : Nat} (h : mx_ok y = true) : plainName (mxN y).cls = true ∧ (parseMethodDescriptor (mxN y).desc).map (fun q => q.parameters.length) = some (if mxRc y = 0 then mxA y else mxA y - 1) ∧ (mxRc y = 0 ∨ 0 < mxA y) ∧ mxA y ≤ mxL y ∧ mxL y ≤ 40 ∧ ((mxN y).cls ≠ "java/lang/invoke/MethodHandle" ∧ (mxN y).cls ≠ "java/lang/invoke/VarHandle") ∧ mx_pcs (mxC y) 0 = 0 ∧ (mxRc y = 0 ∨ mxRc y = 70 ∨ (mxN y).cls = mx_cn (mxRc y - 1)) ∧ (mxRc y ≠ 70 ∨ (mxN y).cls = "java/lang/String") ∧ ((mxN y).name ≠ "<init>" ∨ mxR y = none) ∧ (mxN y).cls = mxCn (mxOw y) := by
  unfold mx_ok mx_ok0 at h
  rw [Bool.and_eq_true] at h
  have h := h.1
  rw [Bool.and_eq_true, Bool.and_eq_true, Bool.and_eq_true, Bool.and_eq_true, Bool.and_eq_true, Bool.and_eq_true, Bool.and_eq_true, Bool.and_eq_true, Bool.and_eq_true, Bool.and_eq_true] at h
  obtain ⟨⟨⟨⟨⟨⟨⟨⟨⟨⟨a1, a2⟩, a3⟩, a4⟩, a5⟩, a6⟩, a7⟩, a8⟩, a9⟩, a10⟩, a11⟩ := h
  exact ⟨a1, of_decide_eq_true a2, of_decide_eq_true a3, of_decide_eq_true a4, of_decide_eq_true a5, of_decide_eq_true a6, of_decide_eq_true a7, of_decide_eq_true a8, of_decide_eq_true a9, of_decide_eq_true a10, of_decide_eq_true a11⟩
theorem mx_ok_len {y : Nat} (h : mx_ok y = true) {n : Nat} (hn : (if mxRc y = 0 then mxA y else mxA y - 1) = n) : ∀ sig, parseMethodDescriptor (mxN y).desc = some sig → n = sig.parameters.length := by
  intro sig hs
  have h2 := (mx_ok0_inv h).2.1
  rw [hs, hn] at h2
  exact (Option.some.inj h2).symm
theorem mx_cat1 {v : Value} (h : Nat.beq (mx_cat v) 1 = true) : v.category = 1 := by
  cases v <;> first | rfl | (simp [mx_cat] at h)
theorem mx_cal_inv {ins : Instr} {r : List Nat} {st as rest : List Value} {h : mxH} {y' : Nat} {P : Prop} (hq : mx_cal ins r st h = some (y', as, rest, P)) :
    as.length = mxA y' ∧ (∀ v ∈ as, v.category = 1) ∧ st = as.reverse ++ rest ∧ (
      (∃ ix a as', ins = .invokevirtual ix ∧ r = [13, y'] ∧ as = .ref a :: as' ∧ P = ((mxT a).1 = mxRc y' ∧ mxG h)) ∨
      (∃ ix a as', ins = .invokevirtual ix ∧ r = [14, y'] ∧ as = .ref a :: as' ∧ P = (30 ≤ a ∧ a < 82 ∧ a % 2 = 0)) ∨
      (∃ ix, ins = .invokestatic ix ∧ r = [13, y']) ∨
      (∃ ix a as', ins = .invokespecial ix ∧ r = [13, y'] ∧ as = .ref a :: as' ∧ P = (100 ≤ a))) := by
  unfold mx_cal at hq
  cases h0 : mx_cal0 ins r st h with
  | none => rw [h0] at hq; cases hq
  | some q =>
    rw [h0] at hq
    simp only at hq
    split at hq
    · rename_i hb
      cases hq
      rw [Bool.and_eq_true, List.all_eq_true] at hb
      obtain ⟨hb1, hb2⟩ := hb
      refine ⟨Nat.eq_of_beq_eq_true hb1, fun v hv => mx_cat1 (hb2 v hv), ?_⟩
      have stk : ∀ n : Nat, st = ((st.take n).reverse).reverse ++ st.drop n := fun n => by rw [List.reverse_reverse, List.take_append_drop]
      unfold mx_cal0 at h0
      split at h0
      · split at h0
        · split at h0
          · rename_i e1
            simp only [Option.some.injEq, Prod.mk.injEq] at h0
            obtain ⟨rfl, rfl, rfl, rfl⟩ := h0
            exact ⟨by rw [← e1]; exact stk _, Or.inl ⟨_, _, _, rfl, rfl, rfl, rfl⟩⟩
          · cases h0
        · split at h0
          · rename_i e1
            simp only [Option.some.injEq, Prod.mk.injEq] at h0
            obtain ⟨rfl, rfl, rfl, rfl⟩ := h0
            exact ⟨by rw [← e1]; exact stk _, Or.inr (Or.inl ⟨_, _, _, rfl, rfl, rfl, rfl⟩)⟩
          · cases h0
        · cases h0
      · split at h0
        · simp only [Option.some.injEq, Prod.mk.injEq] at h0
          obtain ⟨rfl, rfl, rfl, rfl⟩ := h0
          exact ⟨stk _, Or.inr (Or.inr (Or.inl ⟨_, rfl, rfl⟩))⟩
        · cases h0
      · split at h0
        · split at h0
          · rename_i e1
            simp only [Option.some.injEq, Prod.mk.injEq] at h0
            obtain ⟨rfl, rfl, rfl, rfl⟩ := h0
            exact ⟨by rw [← e1]; exact stk _, Or.inr (Or.inr (Or.inr ⟨_, _, _, rfl, rfl, rfl, rfl⟩))⟩
          · cases h0
        · cases h0
      · cases h0
    · cases hq
def mx_Mt (n : Nat) : Prop := ∀ (d y : Nat) (as : List Value) (h h' : mxH) (o : mxO), mx_go n d y 0 (mx_fr y as) [] h = some (o, h') → y < 347 → as.length = mxA y → (∀ v ∈ as, v.category = 1) → ∀ (G : mxGl) (l : Launch), g_ok G → l.stackTraces = false →
  vx_Met l (mxN y) (mx_wd y) (mx_rmm d h h') (mx_Pc G as h) (mx_Qc G o h') (mx_XC G o h') (mx_cs h' - mx_cs h) (mx_n h' - mx_n h) (g_F G)
theorem mx_met_of {l : Launch} {y : MethodName} {ws : List Cond} {rm : Room} {Pc : Array Value → State → Prop} {G : mxGl} {w : Option Value} {h1 : mxH} {mc ms : Nat} {free : Addr → Prop} (hM : vx_Met l y ws rm Pc (mx_Qc G (.inl w) h1) (mx_XC G (.inl w) h1) mc ms free) : Met l y ws rm Pc (mx_Qc G (.inl w) h1) mc ms free := by
  refine MetFree.mono hM (fun _ _ h => h) (fun _ _ _ _ _ h => h) (fun a s o s' _ h => ?_)
  rcases h with h | ⟨q, -, E, ce, L, ⟨k, hk, -⟩, -⟩
  · exact h
  · cases hk
section SND13
variable {G : mxGl} {p : Program} {l : Launch} {e : Env} {R : Room} {s : State} {m : MethodId} {args : Array Value} {below : List Frame} {meth : Method} {c : Code} {y : Nat} {h0 : mxH} {Q : State → Prop}
theorem mx_pre (hK : mx_K G s) (hST : mx_ST G s s.heap) {H : Heap} {locs : List Loc} {h : mxH} {as : List Value} (hR : mx_Rep G h H) (hS : va_S (g_F G) s.heap H locs) : ∀ U : State, U.heap = H → s.WarmedH U.vm → mx_Pc G as h (as.map (mx_rv G)).toArray U := fun U hU hW => ⟨rfl, hK.warm hW, by rw [hU]; exact (hST.kept hS.1 hS.2.1).moved hW.alike, by rw [hU]; exact hR⟩
set_option maxHeartbeats 8000000 in
theorem mx_scall (hall : ∀ y, y < 347 → mx_ok y = true) (C : mx_Cx G p l s m meth c y) {n d' i pc len y' : Nat} {ins : Instr} {r : List Nat} {v : Int32} {ls : mxLs} {st as rest : List Value} {h h1 : mxH} {o1 : mxO} {P : Prop} (hM : mx_Mt n) (he : (mxC y)[i]? = some (pc, ins, len, r, v)) (hcal : mx_cal ins r st h = some (y', as, rest, P)) (hP : P) (hr8 : (rest.map mx_cat).sum ≤ 8)
    (hgo : mx_go n d' y' 0 (mx_fr y' as) [] h = some (o1, h1)) (hRf : d' + 1 + 8 ≤ R.frames) (hRl : 64 * (d' + 1) + 128 ≤ R.locals) (hm : mx_le h0 h) (hc1 : mx_cs h1 - mx_cs h0 ≤ R.cells) (hc2 : mx_n h1 - mx_n h0 ≤ R.slots)
    (kv : ∀ w, o1 = .inl w → mx_WW G p l e R s m args below meth c y h0 Q (i + 1) ls (w.toList ++ rest) h1)
    (kx : ∀ k, o1 = .inr k → (∃ j q, mx_exc y i (mx_isI ins) k = some (some (j, q)) ∧ mx_WW G p l e R s m args below meth c y h0 Q j (ls.set q none) [] h1) ∨ (mx_exc y i (mx_isI ins) k = some none ∧ ∃ Qc, Q = vx_MQ below Qc (mx_XC G (.inr k) h1) args s (mx_cs h1 - mx_cs h0) (mx_n h1 - mx_n h0) (g_F G))) :
    mx_WW G p l e R s m args below meth c y h0 Q i ls st h := by
  have hm1 : mx_le h h1 := mx_go_le n hgo
  obtain ⟨hlen, hcat, rfl, hcases⟩ := mx_cal_inv hcal
  have C0 := C
  obtain ⟨hx, hb, hml, hown, hK, hST, hlocks, hret, hname, hG, hl, htab, hok, hy⟩ := C
  obtain ⟨hd, hpc, hn, ho⟩ := mx_ent hok he
  intro H locs la hR hS hL
  rw [hpc]
  have hsum := mx_cat_le G hG rest
  have hfit : mx_cs h - mx_cs h0 + (mx_cs h1 - mx_cs h) ≤ R.cells ∧ mx_n h - mx_n h0 + (mx_n h1 - mx_n h) ≤ R.slots := by have := hm.1; have := hm.2; have := hm1.1; have := hm1.2; omega
  have S : CallFix p m c (mxB y) (mxL y) s args [] (mxCn (mxOw y)) := ⟨hx, hb, hml, hown, fun w hw => absurd hw List.not_mem_nil⟩
  have hW8 : 2 * 0 + ((rest.map (mx_rv G)).map fun v => v.category).sum ≤ 8 := by omega
  have hpre := mx_pre hK hST (as := as) hR hS
  have hbl := mx_Pc_blind G as h
  have hws : ∀ (w0 : Cond), w0 ∈ mxAll → mx_wd y' = [w0] → ∀ w ∈ mx_wd y', ∀ (a' : Array Value) (U : State), s.WarmedH U.vm → w.before a' U = true := by
    intro w0 h9 hw9 w hw a' U hW
    rw [hw9] at hw
    cases List.mem_singleton.mp hw
    exact (hK.warm hW).w h9
  rcases hcases with ⟨ix, a, as', rfl, rfl, rfl, rfl⟩ | ⟨ix, a, as', rfl, rfl, rfl, rfl⟩ | ⟨ix, rfl, rfl⟩ | ⟨ix, a, as', rfl, rfl, rfl, rfl⟩
  · obtain ⟨rfl, hnx⟩ := hn 3 rfl
    have ho2 : (decide (y' < 347 ∧ mxRc y' < 12 ∧ 0 < mxRc y') && decide ((mxOw y, ix, y') ∈ mxMLt) && decide (y' ∈ mxVt)) = true := ho
    rw [Bool.and_eq_true, Bool.and_eq_true, decide_eq_true_eq, decide_eq_true_eq, decide_eq_true_eq] at ho2
    obtain ⟨⟨⟨hy', hrc1, hrc2⟩, hml'⟩, hvt⟩ := ho2
    have hok' := hall y' hy'
    obtain ⟨k1, k2, k3, k4, k5, k6, k7, k8, k9, k10, k11⟩ := mx_ok0_inv hok'
    have hwd := mx_wd_code (mx_Vt_k y' hvt)
    have hMt := hM d' y' _ h h1 o1 hgo hy' hlen hcat G l hG hl
    have hal := mx_alc hP.2 (a := a) (by rw [hP.1]; omega)
    have hobj := mx_arr G hal.1 hal.2
    rw [mx_E_o G (ci := mxRc y' - 1) (by rw [hP.1]; omega) (by omega)] at hobj
    have hcls : (mxN y').cls = mx_cn (mxRc y' - 1) := by
      rcases k8 with q | q | q
      · omega
      · omega
      · exact q
    have hrecv := va_recv hK.2.1 hR.2.1 (mx_cl_get (ci := mxRc y' - 1) (by omega)) hobj
    rw [← hcls] at hrecv
    have hbr : mx_rv G (.ref a) = .ref (g_N G + (a - 100)) := mx_rc_obj G hal.1
    rw [List.map_cons, hbr] at hpre
    refine mx_back C0 he hnx (b := false) (a := (Value.ref (g_N G + (a - 100)) :: as'.map (mx_rv G)).toArray) hm hm1 hS hL ?_ kv kx
    refine vx_runV (bytes := mxB y') (maxL := mxL y') (ret := mxR y') (index := ix) (n := as'.length) S hMt ⟨⟨rfl, rfl, by show d' + 8 + 1 ≤ R.frames; omega, by show 8 + (mxL y' + 11) + (64 * d' + 128) ≤ R.locals; omega, hws _ (mx_v4 _ hvt) hwd, by rw [hwd]; exact List.mem_cons_self, hK.w (mx_v4 _ hvt), hK.w (mx_v3 _ hvt), k6, mx_ok_len hok' (by rw [if_neg (by omega)]; simp only [List.length_cons] at hlen; omega), hK.w (mx_ml _ hml')⟩, hK.w (mx_v1 _ hvt), hK.w (mx_v2 _ hvt)⟩ ⟨hbl, hrecv, hpre⟩ rfl (by rw [List.length_map]) hL.2.1.1 ?_ hW8 hd hfit
    show List.map (mx_rv G) ((Value.ref a :: as').reverse ++ rest) = _
    rw [List.reverse_cons, List.map_append, List.map_append, List.append_assoc, List.map_reverse, List.map_cons, hbr]
    rfl
  · obtain ⟨rfl, hnx⟩ := hn 3 rfl
    have ho2 : (decide (y' < 347 ∧ mxRc y' = 70) && decide ((mxOw y, ix, y') ∈ mxMLt) && decide (y' ∈ mxVt)) = true := ho
    rw [Bool.and_eq_true, Bool.and_eq_true, decide_eq_true_eq, decide_eq_true_eq, decide_eq_true_eq] at ho2
    obtain ⟨⟨⟨hy', hrc⟩, hml'⟩, hvt⟩ := ho2
    have hok' := hall y' hy'
    obtain ⟨k1, k2, k3, k4, k5, k6, k7, k8, k9, k10, k11⟩ := mx_ok0_inv hok'
    have hwd := mx_wd_code (mx_Vt_k y' hvt)
    have hMt := hM d' y' _ h h1 o1 hgo hy' hlen hcat G l hG hl
    have hcls : (mxN y').cls = "java/lang/String" := by
      rcases k9 with q | q
      · exact absurd hrc q
      · exact q
    obtain ⟨j, rfl, hj9⟩ := mx_evA hP
    have hO := (hST.kept hS.1 hS.2.1).2.2.2.1 j hj9
    obtain ⟨cell, g1, g2, g3, -⟩ := hO.1
    have hbr : mx_rv G (.ref (30 + 2 * j)) = .ref (g_a G (30 + 2 * j)) := mx_rc_const G (by omega) (by omega) (by omega)
    rw [List.map_cons, hbr] at hpre
    refine mx_back C0 he hnx (b := false) (a := (Value.ref (g_a G (30 + 2 * j)) :: as'.map (mx_rv G)).toArray) hm hm1 hS hL ?_ kv kx
    refine vx_runV (bytes := mxB y') (maxL := mxL y') (ret := mxR y') (index := ix) (n := as'.length) S hMt ⟨⟨rfl, rfl, by show d' + 8 + 1 ≤ R.frames; omega, by show 8 + (mxL y' + 11) + (64 * d' + 128) ≤ R.locals; omega, hws _ (mx_v4 _ hvt) hwd, by rw [hwd]; exact List.mem_cons_self, hK.w (mx_v4 _ hvt), hK.w (mx_v3 _ hvt), k6, mx_ok_len hok' (by rw [if_neg (by omega)]; simp only [List.length_cons] at hlen; omega), hK.w (mx_ml _ hml')⟩, hK.w (mx_v1 _ hvt), hK.w (mx_v2 _ hvt)⟩ ⟨hbl, ⟨cell, g1, g2, by rw [hcls]; exact g3⟩, hpre⟩ rfl (by rw [List.length_map]) hL.2.1.1 ?_ hW8 hd hfit
    show List.map (mx_rv G) ((Value.ref (30 + 2 * j) :: as').reverse ++ rest) = _
    rw [List.reverse_cons, List.map_append, List.map_append, List.append_assoc, List.map_reverse, List.map_cons, hbr]
    rfl
  · obtain ⟨rfl, hnx⟩ := hn 3 rfl
    have ho2 : (decide (y' < 347 ∧ mxRc y' = 0) && decide ((mxOw y, ix, y') ∈ mxMLt) && decide (y' ∈ mxSt)) = true := ho
    rw [Bool.and_eq_true, Bool.and_eq_true, decide_eq_true_eq, decide_eq_true_eq, decide_eq_true_eq] at ho2
    obtain ⟨⟨⟨hy', hrc⟩, hml'⟩, hst⟩ := ho2
    have hok' := hall y' hy'
    obtain ⟨k1, k2, k3, k4, k5, k6, k7, k8, k9, k10, k11⟩ := mx_ok0_inv hok'
    have hMt := hM d' y' _ h h1 o1 hgo hy' hlen hcat G l hG hl
    refine mx_back C0 he hnx (b := false) (a := (as.map (mx_rv G)).toArray) hm hm1 hS hL ?_ kv kx
    have hstk : List.map (mx_rv G) (as.reverse ++ rest) = (as.map (mx_rv G)).reverse ++ rest.map (mx_rv G) := by rw [List.map_append, List.map_reverse]
    by_cases hh : mxHh y' = []
    · have hwd := mx_wd_code hh
      have hw0 : Cond.code (mxN y') (mxB y') (mxL y') (mxR y') ∈ mxAll := by
        have := mx_z4 y' hst
        simp only [if_pos hh] at this
        exact this
      exact vx_runS (bytes := mxB y') (maxL := mxL y') (ret := mxR y') (index := ix) (n := as.length) S hMt ⟨⟨rfl, rfl, by show d' + 8 + 1 ≤ R.frames; omega, by show 8 + (mxL y' + 11) + (64 * d' + 128) ≤ R.locals; omega, hws _ hw0 hwd, by rw [hwd]; exact List.mem_cons_self, hK.w hw0, hK.w (mx_z3 _ hst), k6, mx_ok_len hok' (by rw [if_pos hrc]; exact hlen.symm), hK.w (mx_ml _ hml')⟩, hK.w (mx_z1 _ hst)⟩ ⟨hbl, hpre⟩ rfl (by rw [List.length_map]) hL.2.1.1 hstk hW8 hd hfit
    · have hwd := mx_wd_with hh
      have hw0 : Cond.codeWith (mxN y') (mxB y') (mxL y') (mxR y') (mxHh y') ∈ mxAll := by
        have := mx_z4 y' hst
        simp only [if_neg hh] at this
        exact this
      exact vx_runSX (bytes := mxB y') (maxL := mxL y') (ret := mxR y') (index := ix) (n := as.length) (hh := mxHh y') S hMt ⟨⟨rfl, rfl, by show d' + 8 + 1 ≤ R.frames; omega, by show 8 + (mxL y' + 11) + (64 * d' + 128) ≤ R.locals; omega, hws _ hw0 hwd, by rw [hwd]; exact List.mem_cons_self⟩, hK.w hw0, hK.w (mx_z3 _ hst), k6, mx_ok_len hok' (by rw [if_pos hrc]; exact hlen.symm), hK.w (mx_ml _ hml'), hK.w (mx_z1 _ hst)⟩ ⟨hbl, hpre⟩ rfl (by rw [List.length_map]) hL.2.1.1 hstk hW8 hd hfit
  · obtain ⟨rfl, hnx⟩ := hn 3 rfl
    have ho2 : (decide (y' < 347 ∧ y' ∈ mxIt) && (if mxOw y = 12 then decide ((mxOw y, ix, y') ∈ mxMLt) else decide ((mxOw y, ix, y') ∈ mxMNt))) = true := ho
    rw [Bool.and_eq_true, decide_eq_true_eq] at ho2
    obtain ⟨⟨hy', hit⟩, hlk⟩ := ho2
    have hok' := hall y' hy'
    obtain ⟨k1, k2, k3, k4, k5, k6, k7, k8, k9, k10, k11⟩ := mx_ok0_inv hok'
    obtain ⟨hnm, hrc, hhh⟩ := mx_It_k y' hit
    have hwd := mx_wd_code hhh
    have hR0 : mxR y' = none := by
      rcases k10 with q | q
      · exact absurd hnm q
      · exact q
    cases o1 with
    | inr k =>
      exfalso
      rcases kx k rfl with ⟨j, q, hexc, -⟩ | ⟨hexc, -⟩ <;> cases hexc
    | inl w =>
      have hMt := mx_met_of (hM d' y' _ h h1 _ hgo hy' hlen hcat G l hG hl)
      have hbr : mx_rv G (.ref a) = .ref (g_N G + (a - 100)) := mx_rc_obj G hP
      rw [List.map_cons, hbr] at hpre
      refine mx_back C0 he hnx (b := true) (a := (Value.ref (g_N G + (a - 100)) :: as'.map (mx_rv G)).toArray) hm hm1 hS hL (mx_runx ?_) kv (fun k hk => by cases hk)
      have hstk : List.map (mx_rv G) ((Value.ref a :: as').reverse ++ rest) = (as'.map (mx_rv G)).reverse ++ .ref (g_N G + (a - 100)) :: rest.map (mx_rv G) := by
        rw [List.reverse_cons, List.map_append, List.map_append, List.append_assoc, List.map_reverse, List.map_cons, hbr]
        rfl
      have hw0 : Cond.code (mxN y') (mxB y') (mxL y') none ∈ mxAll := by have := mx_i4 y' hit; rw [← hR0]; exact this
      have hwd0 : mx_wd y' = [Cond.code (mxN y') (mxB y') (mxL y') none] := by rw [hwd, hR0]
      have hlen' : ∀ sig, parseMethodDescriptor (mxN y').desc = some sig → as'.length = sig.parameters.length := mx_ok_len hok' (by rw [if_neg hrc]; simp only [List.length_cons] at hlen; omega)
      by_cases ho12 : mxOw y = 12
      · rw [if_pos ho12, decide_eq_true_eq] at hlk
        exact va_runI (bytes := mxB y') (maxL := mxL y') (index := ix) (n := as'.length) S hMt ⟨⟨rfl, rfl, by show d' + 8 + 1 ≤ R.frames; omega, by show 8 + (mxL y' + 11) + (64 * d' + 128) ≤ R.locals; omega, hws _ hw0 hwd0, by rw [hwd0]; exact List.mem_cons_self, hK.w hw0, hK.w (mx_i3 _ hit), k6, hlen', hK.w (mx_ml _ hlk)⟩, hnm, hK.w (mx_i1 _ hit)⟩ ⟨hbl, hpre⟩ rfl (by rw [List.length_map]) hL.2.1.1 hstk hW8 hd hfit
      · rw [if_neg ho12, decide_eq_true_eq] at hlk
        exact va_runIN (bytes := mxB y') (maxL := mxL y') (index := ix) (host := "StoneBacks") (n := as'.length) S hMt ⟨⟨⟨rfl, rfl, by show d' + 8 + 1 ≤ R.frames; omega, by show 8 + (mxL y' + 11) + (64 * d' + 128) ≤ R.locals; omega, hws _ hw0 hwd0, by rw [hwd0]; exact List.mem_cons_self⟩, hK.w hw0, hK.w (mx_i3 _ hit), k6, hlen', hK.w (mx_mn _ hlk)⟩, hnm, hK.w (mx_i1 _ hit)⟩ ⟨hbl, hpre⟩ rfl (by rw [List.length_map]) hL.2.1.1 hstk hW8 hd hfit
end SND13
