/-! SOUNDNESS, 3: instructions of locals and operands -/
theorem mx_ldi_inv {ls ls' : mxLs} {k : Nat} {st st' : List Value} (h : mx_ldi ls k st = some (ls', st')) : ∃ x, mx_at ls k = some (.int x) ∧ ls' = ls ∧ st' = .int x :: st := by
  unfold mx_ldi at h
  split at h
  · rename_i x hx
    simp only [Option.some.injEq, Prod.mk.injEq] at h
    exact ⟨x, hx, h.1.symm, h.2.symm⟩
  · cases h
theorem mx_lda_inv {ls ls' : mxLs} {k : Nat} {st st' : List Value} (h : mx_lda ls k st = some (ls', st')) : ∃ x, mx_at ls k = some (.ref x) ∧ ls' = ls ∧ st' = .ref x :: st := by
  unfold mx_lda at h
  split at h
  · rename_i x hx
    simp only [Option.some.injEq, Prod.mk.injEq] at h
    exact ⟨x, hx, h.1.symm, h.2.symm⟩
  · cases h
theorem mx_inc_inv {ls ls' : mxLs} {k : Nat} {v : Int32} {st st' : List Value} (h : mx_inc ls k v st = some (ls', st')) : ∃ x, mx_at ls k = some (.int x) ∧ ls' = ls.set k (some (.int (x + v))) ∧ st' = st := by
  unfold mx_inc at h
  split at h
  · rename_i x hx
    simp only [Option.some.injEq, Prod.mk.injEq] at h
    exact ⟨x, hx, h.1.symm, h.2.symm⟩
  · cases h
theorem mx_sti_inv {k : Nat} {ls ls' : mxLs} {st st' : List Value} (h : mx_sti ls k st = some (ls', st')) : ∃ x t, st = .int x :: t ∧ ls' = ls.set k (some (.int x)) ∧ st' = t := by
  unfold mx_sti at h
  split at h
  · simp only [Option.some.injEq, Prod.mk.injEq] at h
    exact ⟨_, _,  rfl, h.1.symm, h.2.symm⟩
  · cases h
theorem mx_sta_inv {k : Nat} {ls ls' : mxLs} {st st' : List Value} (h : mx_sta ls k st = some (ls', st')) : ∃ x t, st = .ref x :: t ∧ ls' = ls.set k (some (.ref x)) ∧ st' = t := by
  unfold mx_sta at h
  split at h
  · simp only [Option.some.injEq, Prod.mk.injEq] at h
    exact ⟨_, _,  rfl, h.1.symm, h.2.symm⟩
  · cases h
theorem mx_b2_inv {f : Int32 → Int32 → Int32} {ls ls' : mxLs} {st st' : List Value} (h : mx_b2 f ls st = some (ls', st')) : ∃ y x t, st = .int y :: .int x :: t ∧ ls' = ls ∧ st' = .int (f x y) :: t := by
  unfold mx_b2 at h
  split at h
  · simp only [Option.some.injEq, Prod.mk.injEq] at h
    exact ⟨_, _, _,  rfl, h.1.symm, h.2.symm⟩
  · cases h
theorem mx_b1_inv {f : Int32 → Int32} {ls ls' : mxLs} {st st' : List Value} (h : mx_b1 f ls st = some (ls', st')) : ∃ x t, st = .int x :: t ∧ ls' = ls ∧ st' = .int (f x) :: t := by
  unfold mx_b1 at h
  split at h
  · simp only [Option.some.injEq, Prod.mk.injEq] at h
    exact ⟨_, _,  rfl, h.1.symm, h.2.symm⟩
  · cases h
theorem mx_i2l_inv {ls ls' : mxLs} {st st' : List Value} (h : mx_i2l ls st = some (ls', st')) : ∃ x t, st = .int x :: t ∧ ls' = ls ∧ st' = .long x.toInt64 :: t := by
  unfold mx_i2l at h
  split at h
  · simp only [Option.some.injEq, Prod.mk.injEq] at h
    exact ⟨_, _,  rfl, h.1.symm, h.2.symm⟩
  · cases h
theorem mx_lcmp_inv {ls ls' : mxLs} {st st' : List Value} (h : mx_lcmp ls st = some (ls', st')) : ∃ y x t, st = .long y :: .long x :: t ∧ ls' = ls ∧ st' = .int (lg_cmp x y) :: t := by
  unfold mx_lcmp at h
  split at h
  · simp only [Option.some.injEq, Prod.mk.injEq] at h
    exact ⟨_, _, _,  rfl, h.1.symm, h.2.symm⟩
  · cases h
theorem mx_dup2_inv {ls ls' : mxLs} {st st' : List Value} (h : mx_dup2 ls st = some (ls', st')) : ∃ x a t, st = .int x :: .ref a :: t ∧ ls' = ls ∧ st' = .int x :: .ref a :: .int x :: .ref a :: t := by
  unfold mx_dup2 at h
  split at h
  · simp only [Option.some.injEq, Prod.mk.injEq] at h
    exact ⟨_, _, _,  rfl, h.1.symm, h.2.symm⟩
  · cases h
theorem mx_dup_inv {ls ls' : mxLs} {st st' : List Value} (h : mx_dup ls st = some (ls', st')) : ∃ v t, st = v :: t ∧ ls' = ls ∧ st' = v :: v :: t ∧ v.category = 1 := by
  unfold mx_dup at h
  split at h
  · simp only [Option.some.injEq, Prod.mk.injEq] at h
    exact ⟨_, _, rfl, h.1.symm, h.2.symm, rfl⟩
  · simp only [Option.some.injEq, Prod.mk.injEq] at h
    exact ⟨_, _, rfl, h.1.symm, h.2.symm, rfl⟩
  · cases h
theorem mx_pop_inv {ls ls' : mxLs} {st st' : List Value} (h : mx_pop ls st = some (ls', st')) : ∃ v t, st = v :: t ∧ ls' = ls ∧ st' = t ∧ v.category = 1 := by
  unfold mx_pop at h
  split at h
  · simp only [Option.some.injEq, Prod.mk.injEq] at h
    exact ⟨_, _, rfl, h.1.symm, h.2.symm, rfl⟩
  · simp only [Option.some.injEq, Prod.mk.injEq] at h
    exact ⟨_, _, rfl, h.1.symm, h.2.symm, rfl⟩
  · cases h
theorem mx_ldc_inv {r : List Nat} {v : Int32} {ls ls' : mxLs} {st st' : List Value} (h : mx_ldc r v ls st = some (ls', st')) : (r = [0] ∧ ls' = ls ∧ st' = .int v :: st) ∨ ∃ c, r = [1, c] ∧ ls' = ls ∧ st' = .ref c :: st := by
  unfold mx_ldc at h
  split at h
  · simp only [Option.some.injEq, Prod.mk.injEq] at h
    exact Or.inl ⟨rfl, h.1.symm, h.2.symm⟩
  · simp only [Option.some.injEq, Prod.mk.injEq] at h
    exact Or.inr ⟨_, rfl, h.1.symm, h.2.symm⟩
  · cases h
theorem mx_gst_inv {r : List Nat} {v : Int32} {ls ls' : mxLs} {st st' : List Value} (h : mx_gst r v ls st = some (ls', st')) : (∃ c, r = [0, c] ∧ ls' = ls ∧ st' = .ref c :: st) ∨ (r = [1] ∧ ls' = ls ∧ st' = .int v :: st) := by
  unfold mx_gst at h
  split at h
  · simp only [Option.some.injEq, Prod.mk.injEq] at h
    exact Or.inl ⟨_, rfl, h.1.symm, h.2.symm⟩
  · simp only [Option.some.injEq, Prod.mk.injEq] at h
    exact Or.inr ⟨rfl, h.1.symm, h.2.symm⟩
  · cases h
theorem mx_lcn_inv {r : List Nat} {ls ls' : mxLs} {st st' : List Value} (h : mx_lcn r ls st = some (ls', st')) : ∃ n, r = [n] ∧ ls' = ls ∧ st' = .long (Int64.ofNat n) :: st := by
  unfold mx_lcn at h
  split at h
  · simp only [Option.some.injEq, Prod.mk.injEq] at h
    exact ⟨_, rfl, h.1.symm, h.2.symm⟩
  · cases h
section SNA
variable {p : Program} {l : Launch} {e : Env} {R : Room} {s : State} {m : MethodId} {args : Array Value} {below : List Frame} {meth : Method} {c : Code} {H : Heap} {locs : List Loc} {cells slots : Nat} {Q : State → Prop}
variable {cc : ByteArray} {pc : Nat} {ls : Array Slot} {rest : List Value}
theorem mx_aloadN (hexec : p.tables.exec = Jvm.exec) (hb : c.code = cc) {i : Nat} (hdg : decode cc pc = .ok (.aload i, 2)) (hl : ls[i]? = some (.val .null))
    (k : W p l e R s m args below meth c H locs cells slots Q (F0 m (pc + 2) ls (.null :: rest))) : W p l e R s m args below meth c H locs cells slots Q (F0 m pc ls (rest)) := by
  intro T hT X
  obtain ⟨t, a, b⟩ := k T hT X
  refine ⟨t, ?_, b⟩
  jvm_step X.here [X.here.top, hexec, hb, hdg, hl, Value.isRef]
  exact a
theorem mx_aload_nN (hexec : p.tables.exec = Jvm.exec) (hb : c.code = cc) {k : Fin 4} {i : Nat} (hdg : decode cc pc = .ok (.aload_n k, 1)) (hi : (k : Nat) = i) (hl : ls[i]? = some (.val .null))
    (kk : W p l e R s m args below meth c H locs cells slots Q (F0 m (pc + 1) ls (.null :: rest))) : W p l e R s m args below meth c H locs cells slots Q (F0 m pc ls (rest)) := by
  intro T hT X
  obtain ⟨t, a, b⟩ := kk T hT X
  refine ⟨t, ?_, b⟩
  subst hi
  jvm_step X.here [X.here.top, hexec, hb, hdg, hl, Value.isRef]
  exact a
theorem mx_astoreN (hexec : p.tables.exec = Jvm.exec) (hb : c.code = cc) {i nL : Nat} {lv : List (Nat × Value)} (hdg : decode cc pc = .ok (.astore i, 2)) (h : lv_has ls nL lv) (hn : i < nL)
    (kk : ∀ ls' : Array Slot, lv_has ls' nL ((i, Value.null) :: lv.filter (fun q => !(q.1 == i) && !(q.1 + 1 == i && q.2.category == 2))) → W p l e R s m args below meth c H locs cells slots Q (F0 m (pc + 2) ls' rest)) : W p l e R s m args below meth c H locs cells slots Q (F0 m pc ls (.null :: rest)) := by
  obtain ⟨ls', e1, e2⟩ := lv_store1 h hn (v := .null) rfl
  intro T hT X
  obtain ⟨t, a, b⟩ := kk ls' e2 T hT X
  refine ⟨t, ?_, b⟩
  jvm_step X.here [X.here.top, hexec, hb, hdg, e1, Value.isRef]
  exact a
theorem mx_astore_nN (hexec : p.tables.exec = Jvm.exec) (hb : c.code = cc) {k : Fin 4} {i nL : Nat} {lv : List (Nat × Value)} (hdg : decode cc pc = .ok (.astore_n k, 1)) (hi : (k : Nat) = i) (h : lv_has ls nL lv) (hn : i < nL)
    (kk : ∀ ls' : Array Slot, lv_has ls' nL ((i, Value.null) :: lv.filter (fun q => !(q.1 == i) && !(q.1 + 1 == i && q.2.category == 2))) → W p l e R s m args below meth c H locs cells slots Q (F0 m (pc + 1) ls' rest)) : W p l e R s m args below meth c H locs cells slots Q (F0 m pc ls (.null :: rest)) := by
  obtain ⟨ls', e1, e2⟩ := lv_store1 h hn (v := .null) rfl
  intro T hT X
  obtain ⟨t, a, b⟩ := kk ls' e2 T hT X
  refine ⟨t, ?_, b⟩
  subst hi
  jvm_step X.here [X.here.top, hexec, hb, hdg, e1, Value.isRef]
  exact a
end SNA
theorem mx_LD_ok : ∀ q ∈ mxLDt, q.2.2 ≠ 0 ∧ q.2.2 ≠ 29 ∧ q.2.2 < 100 := by decide
theorem mx_GS_ok : ∀ q ∈ mxGSt, q.2.2 = 2 ∨ q.2.2 = 29 ∨ (3 ≤ q.2.2 ∧ q.2.2 < 29) := by decide
theorem mx_gets_code {G : mxGl} {p : Program} {l : Launch} {e : Env} {R : Room} {s : State} {m : MethodId} {args : Array Value} {below : List Frame} {meth : Method} {c : Code} {H : Heap} {locs : List Loc} {cells slots : Nat} {Q : State → Prop} {cc : ByteArray} {pc : Nat} {ls : Array Slot} {rest : List Value} (hST : mx_ST G s s.heap) (hexec : p.tables.exec = Jvm.exec) (hb : c.code = cc) (hS : va_S (g_F G) s.heap H locs) {own : String} {ix cd : Nat} (hown : s.vm.findClass own = some m.cls) (hcd : cd = 2 ∨ cd = 29 ∨ (3 ≤ cd ∧ cd < 29))
    (hlink : (Cond.fieldLink own ix (mx_sf cd).1 (mx_sf cd).2.1 (mx_sf cd).2.2).before args s = true) (hdg : decode cc pc = .ok (.getstatic ix, 3))
    (kk : W p l e R s m args below meth c H locs cells slots Q (F0 m (pc + 3) ls (mx_rc G cd :: rest))) : W p l e R s m args below meth c H locs cells slots Q (F0 m pc ls rest) := by
  have hZ : va_Z (mx_sf cd).1 (mx_sf cd).2.1 (mx_sf cd).2.2 (mx_rc G cd) (g_F G) s s.heap := by
    rcases hcd with rfl | rfl | ⟨h1, h2⟩
    · exact hST.2.2.1.1
    · exact hST.2.2.2.2.1.2
    · obtain ⟨k, rfl⟩ : ∃ k, cd = 3 + k := ⟨cd - 3, by omega⟩
      have := (hST.1 k (by omega)).1
      rw [mx_rc_const G (by omega) (by omega) (by omega)]
      unfold mx_sf
      rw [if_neg (by omega), if_neg (by omega), show 3 + k - 3 = k by omega]
      exact this
  exact va_gets hexec hb hZ hS hown hlink (fun _ h9 => h9) hdg kk
section SNB
variable {G : mxGl} {p : Program} {l : Launch} {e : Env} {R : Room} {s : State} {m : MethodId} {args : Array Value} {below : List Frame} {meth : Method} {c : Code} {y : Nat} {h0 : mxH} {Q : State → Prop}
set_option maxHeartbeats 4000000 in
theorem mx_sA (C : mx_Cx G p l s m meth c y) {i pc len : Nat} {ins : Instr} {r : List Nat} {v : Int32} {ls ls' : mxLs} {st st' : List Value} {h : mxH} (he : (mxC y)[i]? = some (pc, ins, len, r, v)) (hA : mx_A ins r v ls st = some (ls', st'))
    (k : mx_WW G p l e R s m args below meth c y h0 Q (i + 1) ls' st' h) : mx_WW G p l e R s m args below meth c y h0 Q i ls st h := by
  obtain ⟨hx, hb, hml, hown, hK, hST, hlocks, hret, hname, hG, hl, htab, hok, hy⟩ := C
  obtain ⟨hd, hpc, hn, ho⟩ := mx_ent hok he
  intro H locs la hR hS hL
  rw [hpc]
  cases ins
  case iload kk =>
    obtain ⟨rfl, hnx⟩ := hn 2 rfl
    obtain ⟨x, hx1, rfl, rfl⟩ := mx_ldi_inv hA
    have z := k H locs la hR hS hL
    rw [hnx] at z
    exact lv_iload hx hb hd (hL.get hx1) z
  case iload_n kk =>
    obtain ⟨rfl, hnx⟩ := hn 1 rfl
    obtain ⟨x, hx1, rfl, rfl⟩ := mx_ldi_inv hA
    have z := k H locs la hR hS hL
    rw [hnx] at z
    exact lv_iload_n hx hb hd rfl (hL.get hx1) z
  case aload kk =>
    obtain ⟨rfl, hnx⟩ := hn 2 rfl
    obtain ⟨x, hx1, rfl, rfl⟩ := mx_lda_inv hA
    have z := k H locs la hR hS hL
    rw [hnx] at z
    have hg := hL.get hx1
    rw [List.map_cons] at z
    show W _ _ _ _ _ _ _ _ _ _ _ _ _ _ _ _
    change la[_]? = some (Slot.val (mx_rc G x)) at hg
    change W _ _ _ _ _ _ _ _ _ _ _ _ _ _ _ (F0 _ _ _ (mx_rc G x :: _)) at z
    rcases mx_rc_kind G hG x with q | ⟨a, q⟩
    · rw [q] at hg z
      exact mx_aloadN hx hb hd hg z
    · rw [q] at hg z
      exact lv_aload hx hb hd hg z
  case aload_n kk =>
    obtain ⟨rfl, hnx⟩ := hn 1 rfl
    obtain ⟨x, hx1, rfl, rfl⟩ := mx_lda_inv hA
    have z := k H locs la hR hS hL
    rw [hnx] at z
    have hg := hL.get hx1
    rw [List.map_cons] at z
    show W _ _ _ _ _ _ _ _ _ _ _ _ _ _ _ _
    change la[_]? = some (Slot.val (mx_rc G x)) at hg
    change W _ _ _ _ _ _ _ _ _ _ _ _ _ _ _ (F0 _ _ _ (mx_rc G x :: _)) at z
    rcases mx_rc_kind G hG x with q | ⟨a, q⟩
    · rw [q] at hg z
      exact mx_aload_nN hx hb hd rfl hg z
    · rw [q] at hg z
      exact lv_aload_n hx hb hd rfl hg z
  case istore kk =>
    obtain ⟨rfl, hnx⟩ := hn 2 rfl
    obtain ⟨x, t, rfl, rfl, rfl⟩ := mx_sti_inv hA
    have hk : kk < mxL y := of_decide_eq_true ho
    refine lv_istore hx hb hd hL.2.1 hk rfl (fun la' hla => ?_)
    have z := k H locs la' hR hS (hL.put hG hk (v := .int x) rfl hla)
    rw [hnx] at z
    exact z
  case istore_n kk =>
    obtain ⟨rfl, hnx⟩ := hn 1 rfl
    obtain ⟨x, t, rfl, rfl, rfl⟩ := mx_sti_inv hA
    have hk : kk.val < mxL y := of_decide_eq_true ho
    refine lv_istore_n hx hb hd rfl hL.2.1 hk rfl (fun la' hla => ?_)
    have z := k H locs la' hR hS (hL.put hG hk (v := .int x) rfl hla)
    rw [hnx] at z
    exact z
  case astore kk =>
    obtain ⟨rfl, hnx⟩ := hn 2 rfl
    obtain ⟨x, t, rfl, rfl, rfl⟩ := mx_sta_inv hA
    have hk : kk < mxL y := of_decide_eq_true ho
    rw [List.map_cons]
    change W _ _ _ _ _ _ _ _ _ _ _ _ _ _ _ (F0 _ _ _ (mx_rc G x :: _))
    have hput : ∀ la', lv_has la' (mxL y) ((kk, mx_rc G x) :: (mx_ll G ls).filter (fun q => !(q.1 == kk) && !(q.1 + 1 == kk && q.2.category == 2))) → W p l e R s m args below meth c H locs (mx_cs h - mx_cs h0) (mx_n h - mx_n h0) Q (F0 m (pc + 2) la' (st'.map (mx_rv G))) := by
      intro la' hla
      have z := k H locs la' hR hS (hL.put hG hk (v := .ref x) rfl hla)
      rw [hnx] at z
      exact z
    rcases mx_rc_kind G hG x with q | ⟨a, q⟩
    · rw [q] at hput ⊢
      exact mx_astoreN hx hb hd hL.2.1 hk hput
    · rw [q] at hput ⊢
      exact lv_astore hx hb hd hL.2.1 hk rfl hput
  case astore_n kk =>
    obtain ⟨rfl, hnx⟩ := hn 1 rfl
    obtain ⟨x, t, rfl, rfl, rfl⟩ := mx_sta_inv hA
    have hk : kk.val < mxL y := of_decide_eq_true ho
    rw [List.map_cons]
    change W _ _ _ _ _ _ _ _ _ _ _ _ _ _ _ (F0 _ _ _ (mx_rc G x :: _))
    have hput : ∀ la', lv_has la' (mxL y) ((kk.val, mx_rc G x) :: (mx_ll G ls).filter (fun q => !(q.1 == kk.val) && !(q.1 + 1 == kk.val && q.2.category == 2))) → W p l e R s m args below meth c H locs (mx_cs h - mx_cs h0) (mx_n h - mx_n h0) Q (F0 m (pc + 1) la' (st'.map (mx_rv G))) := by
      intro la' hla
      have z := k H locs la' hR hS (hL.put hG hk (v := .ref x) rfl hla)
      rw [hnx] at z
      exact z
    rcases mx_rc_kind G hG x with q | ⟨a, q⟩
    · rw [q] at hput ⊢
      exact mx_astore_nN hx hb hd rfl hL.2.1 hk hput
    · rw [q] at hput ⊢
      exact lv_astore_n hx hb hd rfl hL.2.1 hk rfl hput
  case iinc kk n =>
    obtain ⟨rfl, hnx⟩ := hn 3 rfl
    obtain ⟨x, hx1, rfl, rfl⟩ := mx_inc_inv hA
    have ho2 := (Bool.and_eq_true _ _).mp ho
    have hv : Int32.ofInt n = v := of_decide_eq_true ho2.1
    have hk : kk < mxL y := of_decide_eq_true ho2.2
    obtain ⟨j, hj⟩ := List.getElem?_of_mem (mx_ll_mem.mpr ⟨_, hx1, rfl⟩ : (kk, mx_rv G (.int x)) ∈ mx_ll G ls)
    refine lv_iinc (v := x + v) hx hb hd hL.2.1 hj (by rw [hv]) hk rfl (fun la' hla => ?_)
    have z := k H locs la' hR hS (hL.put hG hk (v := .int (x + v)) rfl hla)
    rw [hnx] at z
    exact z
  case iconst n =>
    obtain ⟨rfl, hnx⟩ := hn 1 rfl
    obtain ⟨rfl, rfl⟩ : ls = ls' ∧ .int v :: st = st' := by
      have := Option.some.inj hA
      exact ⟨congrArg Prod.fst this, congrArg Prod.snd this⟩
    have z := k H locs la hR hS hL
    rw [hnx] at z
    exact lv_iconst hx hb hd (of_decide_eq_true ho) z
  case bipush n =>
    obtain ⟨rfl, hnx⟩ := hn 2 rfl
    obtain ⟨rfl, rfl⟩ : ls = ls' ∧ .int v :: st = st' := by
      have := Option.some.inj hA
      exact ⟨congrArg Prod.fst this, congrArg Prod.snd this⟩
    have z := k H locs la hR hS hL
    rw [hnx] at z
    exact lv_bipush hx hb hd (of_decide_eq_true ho) z
  case sipush n =>
    obtain ⟨rfl, hnx⟩ := hn 3 rfl
    obtain ⟨rfl, rfl⟩ : ls = ls' ∧ .int v :: st = st' := by
      have := Option.some.inj hA
      exact ⟨congrArg Prod.fst this, congrArg Prod.snd this⟩
    have z := k H locs la hR hS hL
    rw [hnx] at z
    exact lv_sipush hx hb hd (of_decide_eq_true ho) z
  case ldc ix =>
    obtain ⟨rfl, hnx⟩ := hn 2 rfl
    rcases mx_ldc_inv hA with ⟨rfl, rfl, rfl⟩ | ⟨cd, rfl, rfl, rfl⟩
    · have z := k H locs la hR hS hL
      rw [hnx] at z
      have hq := mx_co _ (of_decide_eq_true ho)
      exact lv_ldc hx hb hown (hK.w hq) hd z
    · have z := k H locs la hR hS hL
      rw [hnx] at z
      have hq : (mxOw y, ix, cd) ∈ mxLDt := of_decide_eq_true ho
      obtain ⟨tx, hr⟩ := hK.2.2.2.1 _ hq
      have hc := mx_LD_ok _ hq
      change W _ _ _ _ _ _ _ _ _ _ _ _ _ _ _ (F0 _ _ _ (mx_rc G cd :: _)) at z
      rw [mx_rc_const G hc.1 hc.2.1 hc.2.2] at z
      exact va_ldcS hx hb hown hr hd z
  case ldc_w ix =>
    obtain ⟨rfl, hnx⟩ := hn 3 rfl
    rcases mx_ldc_inv hA with ⟨rfl, rfl, rfl⟩ | ⟨cd, rfl, rfl, rfl⟩
    · have z := k H locs la hR hS hL
      rw [hnx] at z
      have hq := mx_co _ (of_decide_eq_true ho)
      exact lv_ldcw hx hb hown (hK.w hq) hd z
    · cases ho
  case lconst n =>
    obtain ⟨rfl, hnx⟩ := hn 1 rfl
    obtain ⟨q, rfl, rfl, rfl⟩ := mx_lcn_inv hA
    have hq : [q] = [n.val] := of_decide_eq_true ho
    have hq : q = n.val := List.head_eq_of_cons_eq hq
    subst hq
    have z := k H locs la hR hS hL
    rw [hnx] at z
    exact lv_lconst hx hb hd rfl z
  case aconst_null =>
    obtain ⟨rfl, hnx⟩ := hn 1 rfl
    obtain ⟨rfl, rfl⟩ : ls = ls' ∧ .ref 0 :: st = st' := by
      have := Option.some.inj hA
      exact ⟨congrArg Prod.fst this, congrArg Prod.snd this⟩
    have z := k H locs la hR hS hL
    rw [hnx] at z
    exact lv_null hx hb hd z
  case iadd =>
    obtain ⟨rfl, hnx⟩ := hn 1 rfl
    obtain ⟨y1, x1, t, rfl, rfl, rfl⟩ := mx_b2_inv hA
    have z := k H locs la hR hS hL
    rw [hnx] at z
    exact lv_iadd hx hb hd z
  case isub =>
    obtain ⟨rfl, hnx⟩ := hn 1 rfl
    obtain ⟨y1, x1, t, rfl, rfl, rfl⟩ := mx_b2_inv hA
    have z := k H locs la hR hS hL
    rw [hnx] at z
    exact lv_isub hx hb hd z
  case imul =>
    obtain ⟨rfl, hnx⟩ := hn 1 rfl
    obtain ⟨y1, x1, t, rfl, rfl, rfl⟩ := mx_b2_inv hA
    have z := k H locs la hR hS hL
    rw [hnx] at z
    exact lv_imul hx hb hd z
  case iand =>
    obtain ⟨rfl, hnx⟩ := hn 1 rfl
    obtain ⟨y1, x1, t, rfl, rfl, rfl⟩ := mx_b2_inv hA
    have z := k H locs la hR hS hL
    rw [hnx] at z
    exact lv_iand hx hb hd z
  case ior =>
    obtain ⟨rfl, hnx⟩ := hn 1 rfl
    obtain ⟨y1, x1, t, rfl, rfl, rfl⟩ := mx_b2_inv hA
    have z := k H locs la hR hS hL
    rw [hnx] at z
    exact lv_ior hx hb hd z
  case ixor =>
    obtain ⟨rfl, hnx⟩ := hn 1 rfl
    obtain ⟨y1, x1, t, rfl, rfl, rfl⟩ := mx_b2_inv hA
    have z := k H locs la hR hS hL
    rw [hnx] at z
    exact lv_ixor hx hb hd z
  case ishl =>
    obtain ⟨rfl, hnx⟩ := hn 1 rfl
    obtain ⟨y1, x1, t, rfl, rfl, rfl⟩ := mx_b2_inv hA
    have z := k H locs la hR hS hL
    rw [hnx] at z
    exact lv_ishl hx hb hd z
  case ishr =>
    obtain ⟨rfl, hnx⟩ := hn 1 rfl
    obtain ⟨y1, x1, t, rfl, rfl, rfl⟩ := mx_b2_inv hA
    have z := k H locs la hR hS hL
    rw [hnx] at z
    exact lv_ishr hx hb hd z
  case iushr =>
    obtain ⟨rfl, hnx⟩ := hn 1 rfl
    obtain ⟨y1, x1, t, rfl, rfl, rfl⟩ := mx_b2_inv hA
    have z := k H locs la hR hS hL
    rw [hnx] at z
    exact lv_iushr hx hb hd rfl z
  case ineg =>
    obtain ⟨rfl, hnx⟩ := hn 1 rfl
    obtain ⟨x1, t, rfl, rfl, rfl⟩ := mx_b1_inv hA
    have z := k H locs la hR hS hL
    rw [hnx] at z
    exact lv_ineg hx hb hd z
  case i2c =>
    obtain ⟨rfl, hnx⟩ := hn 1 rfl
    obtain ⟨x1, t, rfl, rfl, rfl⟩ := mx_b1_inv hA
    have z := k H locs la hR hS hL
    rw [hnx] at z
    exact lv_i2c hx hb hd rfl z
  case i2b =>
    obtain ⟨rfl, hnx⟩ := hn 1 rfl
    obtain ⟨x1, t, rfl, rfl, rfl⟩ := mx_b1_inv hA
    have z := k H locs la hR hS hL
    rw [hnx] at z
    exact lv_i2b hx hb hd rfl z
  case i2l =>
    obtain ⟨rfl, hnx⟩ := hn 1 rfl
    obtain ⟨x1, t, rfl, rfl, rfl⟩ := mx_i2l_inv hA
    have z := k H locs la hR hS hL
    rw [hnx] at z
    exact lv_i2l hx hb hd rfl z
  case lcmp =>
    obtain ⟨rfl, hnx⟩ := hn 1 rfl
    obtain ⟨y1, x1, t, rfl, rfl, rfl⟩ := mx_lcmp_inv hA
    have z := k H locs la hR hS hL
    rw [hnx] at z
    exact W.lcmp hx hb hd z
  case dup =>
    obtain ⟨rfl, hnx⟩ := hn 1 rfl
    obtain ⟨v1, t, rfl, rfl, rfl, hc⟩ := mx_dup_inv hA
    have z := k H locs la hR hS hL
    rw [hnx] at z
    exact lv_dup hx hb hd (by rw [mx_rv_cat G hG]; exact hc) z
  case dup2 =>
    obtain ⟨rfl, hnx⟩ := hn 1 rfl
    obtain ⟨x1, a1, t, rfl, rfl, rfl⟩ := mx_dup2_inv hA
    have z := k H locs la hR hS hL
    rw [hnx] at z
    exact lv_dup2_11 hx hb hd rfl (mx_rv_cat G hG (.ref a1)) z
  case pop =>
    obtain ⟨rfl, hnx⟩ := hn 1 rfl
    obtain ⟨v1, t, rfl, rfl, rfl, hc⟩ := mx_pop_inv hA
    have z := k H locs la hR hS hL
    rw [hnx] at z
    exact lv_pop hx hb hd (by rw [mx_rv_cat G hG]; exact hc) z
  case getstatic ix =>
    obtain ⟨rfl, hnx⟩ := hn 3 rfl
    rcases mx_gst_inv hA with ⟨cd, rfl, rfl, rfl⟩ | ⟨rfl, rfl, rfl⟩
    · have z := k H locs la hR hS hL
      rw [hnx] at z
      have hq : (mxOw y, ix, cd) ∈ mxGSt := of_decide_eq_true ho
      have hw := hK.w (args := args) (mx_gs _ hq)
      change W _ _ _ _ _ _ _ _ _ _ _ _ _ _ _ (F0 _ _ _ (mx_rc G cd :: _)) at z
      exact mx_gets_code hST hx hb hS hown (mx_GS_ok _ hq) hw hd z
    · have z := k H locs la hR hS hL
      rw [hnx] at z
      have ho2 := (Bool.and_eq_true _ _).mp ho
      have hq : (mxOw y, ix, 0) ∈ mxGCt := of_decide_eq_true ho2.1
      have hv1 : v = 1 := of_decide_eq_true ho2.2
      subst hv1
      exact va_gets hx hb hST.2.2.2.2.1.1 hS hown (hK.w (mx_gc _ hq)) (fun _ h9 => h9) hd z
  all_goals exact absurd (show (none : Option (mxLs × List Value)) = some _ from hA) (fun q => by cases q)
end SNB
