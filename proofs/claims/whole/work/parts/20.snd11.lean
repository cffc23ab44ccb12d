/-! SOUNDNESS, 11: throws -/
theorem mx_tx_inv {L : List mxE} {i ik is ic : Nat} {wd : Bool} (h : mx_tx L i = some (ik, is, wd, ic)) : ∃ p0 a0 p1 a1 p2 a2 p3 a3 p4 a4, L[i]? = some (p0, .new ik, a0) ∧ L[i + 1]? = some (p1, .dup, a1) ∧ ((wd = false ∧ L[i + 2]? = some (p2, .ldc is, a2)) ∨ (wd = true ∧ L[i + 2]? = some (p2, .ldc_w is, a2))) ∧ L[i + 3]? = some (p3, .invokespecial ic, a3) ∧ L[i + 4]? = some (p4, .athrow, 1, a4) := by
  unfold mx_tx at h
  split at h
  · rename_i h1 h2 h3 h4 h5
    simp only [Option.some.injEq, Prod.mk.injEq] at h
    obtain ⟨rfl, rfl, rfl, rfl⟩ := h
    exact ⟨_, _, _, _, _, _, _, _, _, _, h1, h2, Or.inl ⟨rfl, h3⟩, h4, h5⟩
  · rename_i h1 h2 h3 h4 h5
    simp only [Option.some.injEq, Prod.mk.injEq] at h
    obtain ⟨rfl, rfl, rfl, rfl⟩ := h
    exact ⟨_, _, _, _, _, _, _, _, _, _, h1, h2, Or.inr ⟨rfl, h3⟩, h4, h5⟩
  · cases h
theorem mx_Rep_ex (G : mxGl) {h : mxH} {H H1 : Heap} (hR : mx_Rep G h H) (hc : mx_c h = 292) (ho : ∀ q : Nat, q < H.size → H1[q]? = H[q]?) : mx_Rep G (mx_ex h) H1 := by
  obtain ⟨r1, r2, r3, r4⟩ := hR
  refine ⟨fun q => absurd (show mx_c h < 292 from q) (by omega), ?_, r3, r4⟩
  show va_P (g_D G) vwCl (mx_ws G h) H1
  exact r2.kept (fun k q hk => ho q.1 ((r2 k q hk).lt))
theorem mx_tw : ∀ q ∈ mxTHt, ∀ w ∈ ((mx_atm "StoneBacks" q.2.1 (mxXn.getD q.2.2 "") q.2.2).filter vx_no : List Cond), w ∈ mxAll :=
  List.forall_mem_cons.mpr ⟨mx_tw_0, List.forall_mem_cons.mpr ⟨mx_tw_1, List.forall_mem_cons.mpr ⟨mx_tw_3, List.forall_mem_cons.mpr ⟨mx_tw_4, List.forall_mem_cons.mpr ⟨mx_tw_2, fun _ h => absurd h List.not_mem_nil⟩⟩⟩⟩⟩
theorem mx_fit : ∀ q ∈ mxTHt, Bundle.fit (mxXn.getD q.2.2 "") = true := by decide +kernel
section SND11
variable {G : mxGl} {p : Program} {l : Launch} {e : Env} {R : Room} {s : State} {m : MethodId} {args : Array Value} {below : List Frame} {meth : Method} {c : Code} {y : Nat} {h0 : mxH} {Q : State → Prop}
set_option maxHeartbeats 4000000 in
theorem mx_throw {H : Heap} {locs : List Loc} {cells slots : Nat} {ls : Array Slot} {rest : List Value} {Qc : Array Value → State → Outcome → State → Prop} {XC : String → State → State → Prop} {free : Addr → Prop} {cc : ByteArray} {pc e6 : Nat} (hexec : p.tables.exec = Jvm.exec) (hb : c.code = cc) (hl : l.stackTraces = false) {own cls : String} {k ik is ic mc ms : Nat}
    (hown : s.vm.findClass own = some m.cls) (hcls : Bundle.fit cls = true) (hK : mx_K G s) (hST : mx_ST G s s.heap) (hk : Cond.classLink own ik cls ∈ mxAll) (hini : Cond.initialized cls ∈ mxAll) (hstr : ∃ tx sa, vk_R own is tx sa s) (hat : ∀ w ∈ (mx_atm own ic cls k).filter vx_no, w ∈ mxAll)
    (hS : va_S (g_F G) s.heap H locs) (hsize : ls.size = c.maxLocals)
    (d0 : decode cc pc = .ok (.new ik, 3)) (d3 : decode cc (pc + 3) = .ok (.dup, 1)) (d4 : (decode cc (pc + 4) = .ok (.ldc is, 2) ∧ e6 = pc + 6) ∨ (decode cc (pc + 4) = .ok (.ldc_w is, 3) ∧ e6 = pc + 7)) (d6 : decode cc e6 = .ok (.invokespecial ic, 3)) (d9 : decode cc (e6 + 3) = .ok (.athrow, 1))
    (hout : ∀ x ∈ c.exceptionTable.toList, covers x (e6 + 3) = false)
    (hRframes : 5 < R.frames) (hRlocals : (rest.map fun v => v.category).sum + 82 ≤ R.locals) (hRcells : cells + 1 ≤ R.cells) (hRslots : slots + 6 ≤ R.slots) (hlocks : meth.locks = false)
    (hx : ∀ t : State, s.vm.Alike t.vm → H.size ≤ t.heap.size → (∀ q : Nat, q < H.size → t.heap[q]? = H[q]?) → XC cls s t)
    (hf : ∀ z ∈ locs, free z.base) (hc : cells + 1 ≤ mc) (hs : slots + 6 ≤ ms) :
    W p l e R s m args below meth c H locs cells slots (vx_MQ below Qc XC args s mc ms free) (F0 m pc ls rest) := by
  intro T hT X
  have htr : e.platform.stackTraces = false := (show e.platform.stackTraces = l.stackTraces by rw [X.admits.platform]).trans hl
  have Y := vx_rebase X (R' := { frames := R.frames, locals := R.locals, cells := 1, slots := 6 }) (Nat.le_refl _) (Nat.le_refl _) hRcells hRslots
  obtain ⟨s', hA⟩ : ∃ z, z = (T.setVm s.vm).setFrames (.invoking m args :: below) := ⟨_, rfl⟩
  rw [← hA] at Y
  have hvm : s'.vm = s.vm := by rw [hA]; rfl
  have hhp : s'.heap = H := by rw [hA]; exact hT
  have hW0 : s.WarmedH s'.vm := by rw [hvm]; exact State.WarmedH.refl s
  have hK' : mx_K G s' := hK.warm hW0
  have hat' : ∀ w ∈ (mx_atm own ic cls k).filter vx_no, w.before args s' = true := fun w hw => hK'.w (hat w hw)
  have hk' : (Cond.classLink own ik cls).before args s' = true := hK'.w hk
  have hini' : (Cond.initialized cls).before args s' = true := hK'.w hini
  have hU' : vx_Zq Bundle.tN "UNASSIGNED_STACK" Bundle.steD (g_F G) s' s'.heap := by rw [hhp]; exact vx_Zq.moved hW0.alike (hST.2.2.2.2.2.1.1.kept hS.2.1)
  have hN' : vx_Zq Bundle.tN "SUPPRESSED_SENTINEL" Bundle.listD (g_F G) s' s'.heap := by rw [hhp]; exact vx_Zq.moved hW0.alike (hST.2.2.2.2.2.1.2.kept hS.2.1)
  have h : ∀ w ∈ mx_atm own ic cls k, w.before args s' = true := vx_own hat' (vx_isRefq hU'.1) (vx_isRefq hN'.1) hU'.2.word hN'.2.word
  have hown' : s'.vm.findClass own = some m.cls := by rw [hvm]; exact hown
  have hins : (Cond.instantiable cls 6).before args s' = true := h _ (by simp [mx_atm])
  obtain ⟨vm₁, cX, kX, hfX, hkX, -, -, X₁, st1⟩ := Y.newCold hexec (own := own) (C := cls) (index := ik) (n := 6) hown' hk' hins hini'
    (g := F0 m pc ls rest) rfl (by rw [hb]; exact d0) (Nat.le_refl _) (Nat.le_refl _)
  generalize hT1 : (T.setVm vm₁).pushCell { cls := cX, slots := kX.instanceTypes.map defaultValue, vm := .none } = T1 at X₁ st1
  have hcat : (Value.ref T.heap.size).category = 1 := rfl
  have hcellA : T1.heap[T.heap.size]? = some (freshCell cX kX) := by rw [← hT1]; exact State.heap_pushCell_size _ _
  have d3' : decode c.code (pc + 3) = .ok (.dup, 1) := by rw [hb]; exact d3
  obtain ⟨text, sa, hstr⟩ := hstr
  have hstr' : vk_R own is text sa s' := vk_R.warm hW0 hstr
  obtain ⟨U, hsteps, hrun, hend, hW, hsame, ce, hce, hcl9, hvm9⟩ := mx_ctor X₁ hexec htr (own := own) (cls := cls) (k := k) (ic := ic) hown' hcls h (fun x hx => nomatch hx) hfX hkX hcellA (by rw [hhp, hT]; exact Nat.le_refl _) (msg := .ref sa) rfl
    (g := { method := m, pc := e6, locals := ls, stack := .ref sa :: .ref T.heap.size :: .ref T.heap.size :: rest, locked := none }) rfl hsize rfl rfl (rest := rest) rfl
    (by rw [hb]; exact d6) (by rw [hb]; exact d9) hout hRframes (by show 2 * 0 + _ + 81 ≤ R.locals; simp only [List.map_cons, List.sum_cons, hcat]; omega) hlocks
  obtain ⟨f1, f2⟩ := vx_frame hsame
  rw [hhp] at f1 f2
  have hWs : s.WarmedH U.vm := State.WarmedH.trans hW0 hW
  have hcl : s.vm.findClass cls = some ce.cls := by rw [hvm] at hcl9; exact hcl9
  have hall : s.sameButNew ({ U with vm := s.vm } : State) locs mc ms := by
    subst hA
    obtain ⟨e1, e2⟩ := hsame
    rw [State.setFrames_setFrames] at e1
    have h2 : (T.setVm s.vm).sameButNew ({ U with vm := s.vm } : State) [] (0 + 1) (0 + 6) := ⟨e1, e2⟩
    have h3 := X.same.trans h2
    rw [List.append_nil] at h3
    exact h3.mono hc hs
  refine ⟨U, ?_, .threw T.heap.size, hrun, hend, Or.inr ⟨T.heap.size, rfl, cls, ce, locs, hx U hWs.alike f1 (fun q hq => f2 q hq (fun z hz => nomatch hz)), hce, hvm9, hcl, hWs, hall, hf⟩⟩
  refine st1 _ ?_
  show Steps p.tables e below (T1.setTop { method := m, pc := pc + 3, locals := ls, stack := .ref T.heap.size :: rest, locked := none }) _
  jvm_step X₁.here [X₁.here.top, hexec, d3', Value.category]
  rcases d4 with ⟨d4, rfl⟩ | ⟨d4, rfl⟩
  · have d4' : decode c.code (pc + 4) = .ok (.ldc is, 2) := by rw [hb]; exact d4
    exact X₁.ldcString hexec (own := own) (text := text) (index := is) (a := sa) hown' hstr'.1 hstr'.2
      (g := { method := m, pc := pc + 4, locals := ls, stack := .ref T.heap.size :: .ref T.heap.size :: rest, locked := none }) rfl d4' _ hsteps
  · have d4' : decode c.code (pc + 4) = .ok (.ldc_w is, 3) := by rw [hb]; exact d4
    exact X₁.ldcStringW hexec (own := own) (text := text) (index := is) (a := sa) hown' hstr'.1 hstr'.2
      (g := { method := m, pc := pc + 4, locals := ls, stack := .ref T.heap.size :: .ref T.heap.size :: rest, locked := none }) rfl d4' _ hsteps
theorem mx_tab0 : tableOf [] = [] := rfl
set_option maxHeartbeats 4000000 in
theorem mx_sthr (C : mx_Cx G p l s m meth c y) {i pc len k : Nat} {ins : Instr} {r : List Nat} {v : Int32} {ls : mxLs} {st : List Value} {h : mxH} {Qc : Array Value → State → Outcome → State → Prop} (he : (mxC y)[i]? = some (pc, ins, len, r, v)) (ht : mx_thr ins r = some k) (hc : mx_c h = 292) (hst : (st.map mx_cat).sum ≤ 8) (hRf : 8 ≤ R.frames) (hRl : 128 ≤ R.locals) (hm1 : mx_cs h0 ≤ mx_cs h) (hm2 : mx_n h0 ≤ mx_n h) (hc1 : mx_cs (mx_ex h) - mx_cs h0 ≤ R.cells) (hc2 : mx_n (mx_ex h) - mx_n h0 ≤ R.slots) :
    mx_WW G p l e R s m args below meth c y h0 (vx_MQ below Qc (mx_XC G (.inr k) (mx_ex h)) args s (mx_cs (mx_ex h) - mx_cs h0) (mx_n (mx_ex h) - mx_n h0) (g_F G)) i ls st h := by
  obtain ⟨hx, hb, hml, hown, hK, hST, hlocks, hret, hname, hG, hl, htab, hok, hy⟩ := C
  obtain ⟨hd, hpc, hn, ho⟩ := mx_ent hok he
  intro H locs la hR hS hL
  rw [hpc]
  unfold mx_thr at ht
  split at ht
  · rename_i ix
    split at ht
    · rename_i k9
      cases ht
      have ho2 : (decide (k < 5) && (match mx_tx (mxC y) i with | some (ik, is, wd, ic) => decide (ik = ix) && decide (mxOw y = 9) && decide ((ik, ic, k) ∈ mxTHt) && decide (is ∈ mxTSt) && decide (mxHh y = []) && mx_txk (mxC y) i wd | none => false)) = true := ho
      rw [Bool.and_eq_true, decide_eq_true_eq] at ho2
      obtain ⟨hk5, ho2⟩ := ho2
      cases htx : mx_tx (mxC y) i with
      | none => rw [htx] at ho2; cases ho2
      | some q =>
        obtain ⟨ik, is, wd, ic⟩ := q
        rw [htx] at ho2
        simp only [Bool.and_eq_true, decide_eq_true_eq] at ho2
        obtain ⟨⟨⟨⟨⟨rfl, hOw⟩, hth⟩, hts⟩, hhh⟩, htk⟩ := ho2
        obtain ⟨p0, a0, p1, a1, p2, a2, p3, a3, p4, a4, e0, e1, e2, e3, e4⟩ := mx_tx_inv htx
        obtain ⟨n1, r1, v1⟩ := a1
        obtain ⟨n2, r2, v2⟩ := a2
        obtain ⟨n3, r3, v3⟩ := a3
        obtain ⟨r4, v4⟩ := a4
        obtain ⟨rfl, -⟩ := hn 3 rfl
        have hpc0 : mx_pcs (mxC y) i = (pc : Int) := by unfold mx_pcs; rw [he]
        have hpc1 : mx_pcs (mxC y) (i + 1) = (p1 : Int) := by unfold mx_pcs; rw [e1]
        have hpc2 : mx_pcs (mxC y) (i + 2) = (p2 : Int) := by unfold mx_pcs; rcases e2 with ⟨-, e2⟩ | ⟨-, e2⟩ <;> rw [e2]
        have hpc3 : mx_pcs (mxC y) (i + 3) = (p3 : Int) := by unfold mx_pcs; rw [e3]
        have hpc4 : mx_pcs (mxC y) (i + 4) = (p4 : Int) := by unfold mx_pcs; rw [e4]
        unfold mx_txk at htk
        simp only [Bool.and_eq_true, decide_eq_true_eq, hpc0, hpc1, hpc2, hpc3, hpc4] at htk
        obtain ⟨⟨⟨t1, t2⟩, t3⟩, t4⟩ := htk
        have t1 : p1 = pc + 3 := by omega
        have t2 : p2 = pc + 4 := by omega
        subst t1
        subst t2
        obtain ⟨d1, -, l1, -⟩ := mx_ent hok e1
        obtain ⟨rfl, -⟩ := l1 1 rfl
        obtain ⟨d3, -, l3, -⟩ := mx_ent hok e3
        obtain ⟨rfl, -⟩ := l3 3 rfl
        obtain ⟨d4, -, -, -⟩ := mx_ent hok e4
        have t4' : p4 = p3 + 3 := by
          cases wd
          · simp only [Bool.false_eq_true, if_false] at t3 t4; omega
          · simp only [if_true] at t3 t4; omega
        subst t4'
        have d2 : (decode (mxB y) (pc + 4) = .ok (.ldc is, 2) ∧ p3 = pc + 6) ∨ (decode (mxB y) (pc + 4) = .ok (.ldc_w is, 3) ∧ p3 = pc + 7) := by
          rcases e2 with ⟨rfl, e2⟩ | ⟨rfl, e2⟩
          · obtain ⟨d2, -, l2, -⟩ := mx_ent hok e2
            obtain ⟨rfl, -⟩ := l2 2 rfl
            simp only [Bool.false_eq_true, if_false] at t3
            exact Or.inl ⟨d2, by omega⟩
          · obtain ⟨d2, -, l2, -⟩ := mx_ent hok e2
            obtain ⟨rfl, -⟩ := l2 3 rfl
            simp only [if_true] at t3
            exact Or.inr ⟨d2, by omega⟩
        have hown9 : s.vm.findClass "StoneBacks" = some m.cls := by rw [hOw] at hown; exact hown
        have hcs : mx_cs (mx_ex h) = mx_cs h + 1 := by show h.1 + (h.2.1 + 1) = h.1 + h.2.1 + 1; omega
        have hns : mx_n (mx_ex h) = mx_n h + 6 := rfl
        have hsum := mx_cat_le G hG st
        refine mx_throw (k := k) (ic := ic) (is := is) (ik := ik) hx hb hl hown9 (mx_fit _ hth) hK hST (mx_tc _ hth) (mx_ti _ hth) (hK.2.2.2.2.1 is hts) (mx_tw _ hth) hS (by rw [hml]; exact hL.2.1.1) hd d1 d2 d3 d4 ?_ (by omega) (by omega) (by omega) (by omega) hlocks ?_ hS.2.2 (by omega) (by omega)
        · rw [htab, hhh, mx_tab0]
          intro x hx
          cases hx
        · intro t hal hz hq
          exact ⟨k, rfl, hk5, rfl, mx_Rep_ex G hR hc hq, ⟨Nat.le_trans hS.1 hz, fun q h1 h2 => by rw [hq q (Nat.lt_of_lt_of_le h1 hS.1)]; exact hS.2.1 q h1 h2⟩⟩
    · cases ht
  · cases ht
end SND11
