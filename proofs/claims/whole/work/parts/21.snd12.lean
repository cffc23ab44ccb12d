/-! SOUNDNESS, 12: handlers, and what comes back from a call -/
def mx_hs (L : List mxE) (q : Nat × Nat) (z : Nat) : Bool := match L[q.1 - 1]? with
  | some (pc, .astore k, _) => decide (pc = z) && decide (k = q.2)
  | some (pc, .astore_n k, _) => decide (pc = z) && decide (k.val = q.2)
  | _ => false
def mx_hk1 (y : Nat) (L : List mxE) (q : Nat × Nat × Nat × Nat × Nat) (z : Nat × Nat × Nat × Nat) : Bool :=
  decide (q.2.2.1 < 5) && decide ((z.2.2.2, q.2.2.1) ∈ mxHCt) && decide (z.2.2.2 ≠ 0) && decide (mxOw y = 12) && decide (q.2.2.2.2 < mxL y) && decide (1 ≤ q.2.2.2.1) && mx_hs L q.2.2.2 z.2.2.1
  && (List.range L.length).all (fun i => decide ((q.1 ≤ i ∧ i < q.2.1) ↔ (z.1 ≤ (mx_pcs L i).toNat ∧ (mx_pcs L i).toNat < z.2.1)))
noncomputable def mx_hk (y : Nat) : Bool := decide ((mxHd y).length = (mxHh y).length) && ((mxHd y).zip (mxHh y)).all (fun w => mx_hk1 y (mxC y) w.1 w.2)
set_option maxRecDepth 100000 in
theorem mx_hk_all : (List.range 347).all mx_hk = true := by decide +kernel
theorem mx_hsplit {α β : Type} : ∀ (as : List α) (A : List α) (B : List β) (w : α) (bs : List α), A.length = B.length → A = as ++ w :: bs → ∃ pre z suf, B = pre ++ z :: suf ∧ (w, z) ∈ A.zip B ∧ ∀ z' ∈ pre, ∃ w' ∈ as, (w', z') ∈ A.zip B := by
  intro as
  induction as with
  | nil =>
    intro A B w bs hl hA
    subst hA
    cases B with
    | nil => simp at hl
    | cons z B => exact ⟨[], z, B, rfl, by simp, fun z' h => absurd h List.not_mem_nil⟩
  | cons a as ih =>
    intro A B w bs hl hA
    subst hA
    cases B with
    | nil => simp at hl
    | cons b B =>
      obtain ⟨pre, z, suf, h1, h2, h3⟩ := ih (as ++ w :: bs) B w bs (by simpa using hl) rfl
      refine ⟨b :: pre, z, suf, by rw [h1]; rfl, ?_, fun z' hz => ?_⟩
      · show (w, z) ∈ (a, b) :: (as ++ w :: bs).zip B
        exact List.mem_cons_of_mem _ h2
      · rcases List.mem_cons.mp hz with rfl | hz
        · exact ⟨a, List.mem_cons_self, by show (a, z') ∈ (a, z') :: (as ++ w :: bs).zip B; exact List.mem_cons_self⟩
        · obtain ⟨w', hw, hq⟩ := h3 z' hz
          exact ⟨w', List.mem_cons_of_mem _ hw, by show (w', z') ∈ (a, b) :: (as ++ w :: bs).zip B; exact List.mem_cons_of_mem _ hq⟩
theorem mx_hd_inv {y i k j q : Nat} (h : mx_hd y i k = some (j, q)) : ∃ w as bs, mxHd y = as ++ w :: bs ∧ (w.1 ≤ i ∧ i < w.2.1 ∧ w.2.2.1 = k) ∧ w.2.2.2 = (j, q) ∧ ∀ a ∈ as, ¬ (a.1 ≤ i ∧ i < a.2.1 ∧ a.2.2.1 = k) := by
  unfold mx_hd at h
  cases hf : (mxHd y).find? (fun q => decide (q.1 ≤ i ∧ i < q.2.1 ∧ q.2.2.1 = k)) with
  | none => rw [hf] at h; cases h
  | some w =>
    rw [hf] at h
    obtain ⟨h1, as, bs, h2, h3⟩ := List.find?_eq_some_iff_append.mp hf
    refine ⟨w, as, bs, h2, of_decide_eq_true h1, Option.some.inj h, fun a ha hq => ?_⟩
    have := h3 a ha
    simp [hq] at this
section SND12
variable {G : mxGl} {p : Program} {l : Launch} {e : Env} {R : Room} {s : State} {m : MethodId} {args : Array Value} {below : List Frame} {meth : Method} {c : Code} {y : Nat} {h0 : mxH} {Q : State → Prop}
theorem mx_castw : ∀ q ∈ mxTHt, Cond.castable (mxXn.getD q.2.2 "") (mxXn.getD q.2.2 "") ∈ mxAll := fun q hq => mx_tw q hq _ (List.mem_filter.mpr ⟨by simp [mx_atm], by simp [vx_no]⟩)
theorem mx_cast5 : ∀ k, k < 5 → Cond.castable (mxXn.getD k "") (mxXn.getD k "") ∈ mxAll := by
  intro k hk
  have h : k = 0 ∨ k = 1 ∨ k = 2 ∨ k = 3 ∨ k = 4 := by omega
  rcases h with rfl | rfl | rfl | rfl | rfl
  · exact mx_castw (109, 113, 0) (by decide)
  · exact mx_castw (119, 123, 1) (by decide)
  · exact mx_castw (454, 458, 2) (by decide)
  · exact mx_castw (191, 195, 3) (by decide)
  · exact mx_castw (281, 285, 4) (by decide)
set_option maxHeartbeats 4000000 in
theorem mx_caught (C : mx_Cx G p l s m meth c y) {i pc k j q : Nat} {er : Instr × Nat × List Nat × Int32} (he : (mxC y)[i]? = some (pc, er)) (hh : mx_hd y i k = some (j, q)) {H : Heap} {locs : List Loc} {la : Array Slot} {ls : mxLs} {h1 : mxH} {rest : List Value} {q9 : Addr} {ce : Cell}
    (hR : mx_Rep G h1 H) (hS : va_S (g_F G) s.heap H locs) (hL : mx_LR G y ls la) (hk5 : k < 5) (hce : H[q9]? = some ce) (hv : ce.vm = .none) (hcl : s.vm.findClass (mxXn.getD k "") = some ce.cls)
    (kk : mx_WW G p l e R s m args below meth c y h0 Q j (ls.set q none) [] h1) : vx_W p l e R s m args below meth c H locs (mx_cs h1 - mx_cs h0) (mx_n h1 - mx_n h0) Q (F0 m pc la rest) q9 := by
  obtain ⟨hx, hb, hml, hown, hK, hST, hlocks, hret, hname, hG, hl, htab, hok, hy⟩ := C
  have hhk : mx_hk y = true := List.all_eq_true.mp mx_hk_all y (List.mem_range.mpr hy)
  unfold mx_hk at hhk
  rw [Bool.and_eq_true, decide_eq_true_eq, List.all_eq_true] at hhk
  obtain ⟨hlen, hall⟩ := hhk
  obtain ⟨w, as, bs, hA, ⟨w1, w2, w3⟩, w4, hno⟩ := mx_hd_inv hh
  obtain ⟨pre, z, suf, hB, hwz, hpre⟩ := mx_hsplit as (mxHd y) (mxHh y) w bs hlen hA
  have hil : i < (mxC y).length := (List.getElem?_eq_some_iff.mp he).1
  have hpci : (mx_pcs (mxC y) i).toNat = pc := by unfold mx_pcs; rw [he]; rfl
  have key : ∀ (w' : Nat × Nat × Nat × Nat × Nat) (z' : Nat × Nat × Nat × Nat), (w', z') ∈ (mxHd y).zip (mxHh y) → w'.2.2.1 < 5 ∧ (z'.2.2.2, w'.2.2.1) ∈ mxHCt ∧ z'.2.2.2 ≠ 0 ∧ mxOw y = 12 ∧ w'.2.2.2.2 < mxL y ∧ 1 ≤ w'.2.2.2.1 ∧ mx_hs (mxC y) w'.2.2.2 z'.2.2.1 = true ∧ ((w'.1 ≤ i ∧ i < w'.2.1) ↔ (z'.1 ≤ pc ∧ pc < z'.2.1)) := by
    intro w' z' hz
    have h9 := hall (w', z') hz
    unfold mx_hk1 at h9
    simp only [Bool.and_eq_true, decide_eq_true_eq, List.all_eq_true] at h9
    obtain ⟨⟨⟨⟨⟨⟨⟨a1, a2⟩, a3⟩, a4⟩, a5⟩, a6⟩, a7⟩, a8⟩ := h9
    have a9 := a8 i (List.mem_range.mpr hil)
    rw [hpci] at a9
    exact ⟨a1, a2, a3, a4, a5, a6, a7, a9⟩
  obtain ⟨b1, b2, b3, b4, b5, b6, b7, b8⟩ := key w z hwz
  have hownL : s.vm.findClass "StoneBacksLaw" = some m.cls := by rw [b4] at hown; exact hown
  rw [w4] at b5 b6 b7
  rw [w3] at b2
  refine vx_catch (own := "StoneBacksLaw") (name := mxXn.getD k "") (E := mxXn.getD k "") hownL (tableOf pre) ⟨z.1, z.2.1, z.2.2.1, z.2.2.2⟩ (tableOf suf) ?_ ?_ ?_ b3 (hK.w (mx_hc _ b2)) (hK.w (mx_cast5 k hk5)) hce hv hcl ?_
  · rw [htab, hB]
    unfold tableOf
    rw [List.map_append, List.map_cons]
  · intro x hx9
    unfold tableOf at hx9
    obtain ⟨z', hz', rfl⟩ := List.mem_map.mp hx9
    obtain ⟨w', hw', hq'⟩ := hpre z' hz'
    obtain ⟨c1, c2, c3, -, -, -, -, c8⟩ := key w' z' hq'
    by_cases hcv : z'.1 ≤ pc ∧ pc < z'.2.1
    · have hr := c8.mpr hcv
      have hne : w'.2.2.1 ≠ k := fun e9 => hno w' hw' ⟨hr.1, hr.2, e9⟩
      exact Or.inr ⟨c3, mxXn.getD w'.2.2.1 "", hK.w (mx_hc _ c2), hK.2.2.2.2.2 k w'.2.2.1 hk5 c1 (fun e9 => hne e9.symm)⟩
    · refine Or.inl ?_
      show (decide (z'.1 ≤ pc) && decide (pc < z'.2.1)) = false
      rw [Bool.and_eq_false_iff, decide_eq_false_iff_not, decide_eq_false_iff_not]
      omega
  · have hr := b8.mp ⟨w1, w2⟩
    show (decide (z.1 ≤ pc) && decide (pc < z.2.1)) = true
    rw [Bool.and_eq_true, decide_eq_true_eq, decide_eq_true_eq]
    exact hr
  · show W p l e R s m args below meth c H locs _ _ Q (F0 m z.2.2.1 la [.ref q9])
    unfold mx_hs at b7
    have hj : j - 1 + 1 = j := by omega
    split at b7
    · rename_i pc1 k1 a1 he1
      obtain ⟨n1, r1, v1⟩ := a1
      simp only [Bool.and_eq_true, decide_eq_true_eq] at b7
      obtain ⟨rfl, rfl⟩ := b7
      obtain ⟨d1, -, l1, -⟩ := mx_ent hok he1
      obtain ⟨rfl, hnx⟩ := l1 2 rfl
      rw [hj] at hnx
      refine lv_astore hx hb d1 hL.2.1 b5 rfl (fun la' hla => ?_)
      have zz := kk H locs la' hR hS (hL.drop hG hla)
      rw [hnx] at zz
      exact zz
    · rename_i pc1 k1 a1 he1
      obtain ⟨n1, r1, v1⟩ := a1
      simp only [Bool.and_eq_true, decide_eq_true_eq] at b7
      obtain ⟨rfl, b7⟩ := b7
      obtain ⟨d1, -, l1, -⟩ := mx_ent hok he1
      obtain ⟨rfl, hnx⟩ := l1 1 rfl
      rw [hj] at hnx
      refine lv_astore_n hx hb d1 b7 hL.2.1 b5 rfl (fun la' hla => ?_)
      have zz := kk H locs la' hR hS (hL.drop hG hla)
      rw [hnx] at zz
      exact zz
    · cases b7
theorem mx_runx {H : Heap} {locs : List Loc} {cells slots mc ms : Nat} {g : JFrame} {rest : List Value} {Qa : State → Outcome → State → Prop} {XC : String → State → State → Prop} {free : Addr → Prop} (h : va_Run p l e R s m args below meth c H locs cells slots mc ms g rest Qa free) : vx_Run p l e R s m args below meth c H locs cells slots mc ms g rest Qa XC free := fun T hT X => Or.inl (h T hT X)
set_option maxHeartbeats 4000000 in
theorem mx_back (C : mx_Cx G p l s m meth c y) {i pc : Nat} {ins : Instr} {r : List Nat} {v : Int32} {b : Bool} (he : (mxC y)[i]? = some (pc, ins, 3, r, v)) (hnx : mx_pc y (i + 1) = pc + 3) {a : Array Value} {ls : mxLs} {rest st0 : List Value} {h h1 : mxH} {o1 : mxO} {H : Heap} {locs : List Loc} {la : Array Slot}
    (hm : mx_le h0 h) (hm1 : mx_le h h1) (hS : va_S (g_F G) s.heap H locs) (hL : mx_LR G y ls la)
    (hrun : vx_Run p l e R s m args below meth c H locs (mx_cs h - mx_cs h0) (mx_n h - mx_n h0) (mx_cs h1 - mx_cs h) (mx_n h1 - mx_n h) (F0 m pc la st0) (rest.map (mx_rv G)) (mx_Qc G o1 h1 a) (mx_XC G o1 h1) (g_F G))
    (kv : ∀ w, o1 = .inl w → mx_WW G p l e R s m args below meth c y h0 Q (i + 1) ls (w.toList ++ rest) h1)
    (kx : ∀ k, o1 = .inr k → (∃ j q, mx_exc y i b k = some (some (j, q)) ∧ mx_WW G p l e R s m args below meth c y h0 Q j (ls.set q none) [] h1) ∨ (mx_exc y i b k = some none ∧ ∃ Qc, Q = vx_MQ below Qc (mx_XC G (.inr k) h1) args s (mx_cs h1 - mx_cs h0) (mx_n h1 - mx_n h0) (g_F G))) :
    W p l e R s m args below meth c H locs (mx_cs h - mx_cs h0) (mx_n h - mx_n h0) Q (F0 m pc la st0) := by
  have ec : mx_cs h - mx_cs h0 + (mx_cs h1 - mx_cs h) = mx_cs h1 - mx_cs h0 := by have := hm.1; have := hm1.1; omega
  have en : mx_n h - mx_n h0 + (mx_n h1 - mx_n h) = mx_n h1 - mx_n h0 := by have := hm.2; have := hm1.2; omega
  intro T hT X
  rcases hrun T hT X with ⟨w9, st₀, t, T', L, g0, X', hLc, e1, e2, ⟨⟨w, hw, hv⟩, hRep, hF⟩, stp⟩ | ⟨q, st₀, t, T', L, E, ce, g0, X', hLc, e1, e2, ⟨k, hk, hk5, rfl, hRep, hF⟩, hce, hcv, hcl, stp⟩
  · cases hv
    obtain ⟨k1, k2, k3⟩ := vx_keep g0 e1 hS (fun _ _ z => z) (fun _ z => z) hLc hF
    rw [ec, en] at X'
    have z := kv w hw T'.heap (locs ++ L) la (by rw [e1]; exact hRep) k3 hL
    rw [hnx, List.map_append] at z
    obtain ⟨t2, a1, b1⟩ := z T' rfl X'
    refine ⟨t2, stp t2 ?_, b1⟩
    have e9 : (Option.map (mx_rv G) w).toList = w.toList.map (mx_rv G) := by cases w <;> rfl
    rw [e9]
    exact a1
  · obtain ⟨k1, k2, k3⟩ := vx_keep g0 e1 hS (fun _ _ z => z) (fun _ z => z) hLc hF
    rw [ec, en] at X'
    have hRep' : mx_Rep G h1 T'.heap := by rw [e1]; exact hRep
    have hce' : T'.heap[q]? = some ce := by rw [e1]; exact hce
    rcases kx k hk with ⟨j, q2, hexc, z⟩ | ⟨hexc, Qc, hQ⟩
    · have hhd : mx_hd y i k = some (j, q2) := by
        unfold mx_exc at hexc
        cases b with
        | true => cases hexc
        | false =>
          simp only at hexc
          cases hz : mx_hd y i k with
          | some q8 => rw [hz] at hexc; simp only [Option.some.injEq] at hexc; rw [hexc]
          | none =>
            rw [hz] at hexc
            simp only at hexc
            split at hexc <;> cases hexc
      obtain ⟨t2, a1, b1⟩ := mx_caught C he hhd (rest := rest.map (mx_rv G)) hRep' k3 hL hk5 hce' hcv hcl z T' rfl X'
      exact ⟨t2, stp.trans a1, b1⟩
    · have hhd : mxHd y = [] := by
        unfold mx_exc at hexc
        cases b with
        | true => cases hexc
        | false =>
          simp only at hexc
          cases hz : mx_hd y i k with
          | some q8 => rw [hz] at hexc; cases hexc
          | none =>
            rw [hz] at hexc
            simp only at hexc
            split at hexc
            · assumption
            · cases hexc
      obtain ⟨hx, hb, hml, hown, hK, hST, hlocks, hret, hname, hG, hl, htab, hok, hy⟩ := C
      have hhk : mx_hk y = true := List.all_eq_true.mp mx_hk_all y (List.mem_range.mpr hy)
      unfold mx_hk at hhk
      rw [Bool.and_eq_true, decide_eq_true_eq, hhd] at hhk
      have hhh : mxHh y = [] := List.eq_nil_of_length_eq_zero hhk.1.symm
      subst hQ
      obtain ⟨t2, a1, b1⟩ := vx_out (ls := la) (rest := rest.map (mx_rv G)) (pc := pc) (Qc := Qc) (XC := mx_XC G (.inr k) h1) (free := g_F G) (by rw [htab, hhh, mx_tab0]; intro x hx9; cases hx9) hlocks hce' hcv hcl (fun t9 ht9 _ => ⟨k, rfl, hk5, rfl, by rw [ht9]; exact hRep', ⟨by rw [ht9]; exact k3.1, fun q8 h8 h9 => by rw [ht9]; exact k3.2.1 q8 h8 h9⟩⟩) k3.2.2 (Nat.le_refl _) (Nat.le_refl _) T' rfl X'
      exact ⟨t2, stp.trans a1, b1⟩
end SND12
