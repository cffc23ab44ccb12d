/-! SOUNDNESS, 2: what holds around a method, and that it stays -/
def mx_ST (G : mxGl) (U : State) (H : Heap) : Prop :=
  (∀ k, k < 26 → va_Z "StoneBacks$Word" (mxWn.getD k "") "LStoneBacks$Word;" (.ref (g_a G (3 + k))) (g_F G) U H ∧ va_O "StoneBacks$Word" (g_a G (3 + k)) (g_F G) U H ∧ va_OF "StoneBacks$Word" "text" "Ljava/lang/String;" (.ref (g_a G (30 + 2 * k))) (g_a G (3 + k)) (g_F G) U H ∧ va_OF "StoneBacks$Word" "part" "I" (.int (mxWp (3 + k))) (g_a G (3 + k)) (g_F G) U H)
  ∧ (∀ j k, j < 26 → k < 26 → g_a G (3 + j) = g_a G (3 + k) → j = k)
  ∧ (va_Z "StoneBacks$Tape" "WORDS" "[LStoneBacks$Word;" (.ref (g_a G 2)) (g_F G) U H ∧ va_T (.object "StoneBacks$Word") (g_a G 2) 26 (fun j => .ref (g_a G (3 + j))) (g_F G) U H)
  ∧ (∀ k, k < 26 → va_O "java/lang/String" (g_a G (30 + 2 * k)) (g_F G) U H ∧ va_OF "java/lang/String" "coder" "B" (.int 0) (g_a G (30 + 2 * k)) (g_F G) U H ∧ va_OF "java/lang/String" "value" "[B" (.ref (g_a G (31 + 2 * k))) (g_a G (30 + 2 * k)) (g_F G) U H ∧ va_T .byte (g_a G (31 + 2 * k)) (mxSl (31 + 2 * k)) (fun j => .int (mxSb (31 + 2 * k) j)) (g_F G) U H)
  ∧ (va_Z "java/lang/String" "COMPACT_STRINGS" "Z" (.int 1) (g_F G) U H ∧ va_Z "jdk/internal/util/Preconditions" "SIOOBE_FORMATTER" "Ljava/util/function/BiFunction;" (g_v G) (g_F G) U H)
  ∧ (vx_Zq Bundle.tN "UNASSIGNED_STACK" Bundle.steD (g_F G) U H ∧ vx_Zq Bundle.tN "SUPPRESSED_SENTINEL" Bundle.listD (g_F G) U H)
  ∧ (va_X (g_a G 1) (g_L G) (g_x G) U H ∧ g_a G 1 < g_N G ∧ g_N G ≤ H.size)
theorem mx_ST.kept {G : mxGl} {U : State} {H H1 : Heap} (h : mx_ST G U H) (hz : H.size ≤ H1.size) (hq : ∀ a : Nat, a < H.size → ¬ g_F G a → H1[a]? = H[a]?) : mx_ST G U H1 := by
  obtain ⟨h1, h2, h3, h4, h5, h6, h7, h8, h9⟩ := h
  refine ⟨fun k hk => ?_, h2, ⟨h3.1.kept hq, h3.2.kept hq⟩, fun k hk => ?_, ⟨h5.1.kept hq, h5.2.kept hq⟩, ⟨h6.1.kept hq, h6.2.kept hq⟩, h7.kept (hq _ (Nat.lt_of_lt_of_le h8 h9) (Nat.not_le.mpr h8)), h8, Nat.le_trans h9 hz⟩
  · obtain ⟨a, b, c, d⟩ := h1 k hk
    exact ⟨a.kept hq, b.kept hq, c.kept hq, d.kept hq⟩
  · obtain ⟨a, b, c, d⟩ := h4 k hk
    exact ⟨a.kept hq, b.kept hq, c.kept hq, d.kept hq⟩
theorem mx_ST.moved {G : mxGl} {u U : State} {H : Heap} (hvm : u.vm.Alike U.vm) (h : mx_ST G u H) : mx_ST G U H := by
  obtain ⟨h1, h2, h3, h4, h5, h6, h7, h8⟩ := h
  refine ⟨fun k hk => ?_, h2, ⟨h3.1.moved hvm, h3.2.moved hvm⟩, fun k hk => ?_, ⟨h5.1.moved hvm, h5.2.moved hvm⟩, ⟨h6.1.moved hvm, h6.2.moved hvm⟩, h7.moved hvm, h8⟩
  · obtain ⟨a, b, c, d⟩ := h1 k hk
    exact ⟨a.moved hvm, b.moved hvm, c.moved hvm, d.moved hvm⟩
  · obtain ⟨a, b, c, d⟩ := h4 k hk
    exact ⟨a.moved hvm, b.moved hvm, c.moved hvm, d.moved hvm⟩
/-- what the tables say -/
def mx_K (G : mxGl) (U : State) : Prop :=
  (∀ w ∈ mxAll, w.before #[] U = true) ∧ va_K (g_D G) vwCl (mx_tys G) U ∧ (va_AO "StoneBacks$Word" U ∧ va_AO "StoneBacks$Valley" U)
  ∧ (∀ q ∈ mxLDt, ∃ tx, vk_R (mxCn q.1) q.2.1 tx (g_a G q.2.2) U) ∧ (∀ i ∈ mxTSt, ∃ tx sa, vk_R "StoneBacks" i tx sa U)
  ∧ ∀ i j, i < 5 → j < 5 → i ≠ j → va_Nc (mxXn.getD i "") (mxXn.getD j "") U
theorem mx_wk_warm {w : Cond} {s U : State} (hW : s.WarmedH U.vm) (hk : mx_wk w = true) (h : w.before #[] s = true) : w.before #[] U = true := by
  unfold mx_wk at hk
  split at hk
  · exact va_Nw.warmM hW h
  · exact va_Nw.warmC hW h
  · exact va_Nw.warmD hW h
  · exact word_at hW (good_of_word hk) h
theorem mx_wk_use {w : Cond} {s : State} {args : Array Value} (hk : mx_wk w = true) (h : w.before #[] s = true) : w.before args s = true := by
  unfold mx_wk at hk
  split at hk
  · exact va_Nw.use rfl h
  · exact va_Nw.use rfl h
  · exact va_Nw.use rfl h
  · exact word_at (State.WarmedH.refl s) (good_of_word hk) h
theorem mx_K.w {G : mxGl} {s : State} {args : Array Value} (h : mx_K G s) {w : Cond} (hw : w ∈ mxAll) : w.before args s = true := mx_wk_use (List.mem_filter.mp hw).2 (h.1 w hw)
theorem mx_K.warm {G : mxGl} {s U : State} (hW : s.WarmedH U.vm) (h : mx_K G s) : mx_K G U := by
  obtain ⟨h1, h2, h3, h4, h5, h6⟩ := h
  refine ⟨fun w hw => mx_wk_warm hW (List.mem_filter.mp hw).2 (h1 w hw), va_K.moved hW.alike h2, ⟨h3.1.moved hW.alike, h3.2.moved hW.alike⟩, fun q hq => ?_, fun i hi => ?_, fun i j hi hj e => va_Nc.moved hW.alike (h6 i j hi hj e)⟩
  · obtain ⟨tx, h⟩ := h4 q hq
    exact ⟨tx, vk_R.warm hW h⟩
  · obtain ⟨tx, sa, h⟩ := h5 i hi
    exact ⟨tx, sa, vk_R.warm hW h⟩
/-! the locals -/
def mx_ll (G : mxGl) (ls : mxLs) : List (Nat × Value) := (List.range ls.length).filterMap (fun k => (mx_at ls k).map (fun v => (k, mx_rv G v)))
theorem mx_at_lt : ∀ {ls : mxLs} {k : Nat} {v : Value}, mx_at ls k = some v → k < ls.length
  | [], k, v, h => by cases h
  | a :: t, 0, v, h => Nat.succ_pos _
  | a :: t, k + 1, v, h => Nat.succ_lt_succ (mx_at_lt (ls := t) h)
theorem mx_at_set : ∀ {ls : mxLs} {k j : Nat} {x : Option Value}, mx_at (ls.set k x) j = if j = k ∧ k < ls.length then x else mx_at ls j
  | [], k, j, x => by simp [mx_at]
  | a :: t, 0, 0, x => by simp [mx_at]
  | a :: t, 0, j + 1, x => by simp [mx_at]
  | a :: t, k + 1, 0, x => by simp [mx_at]
  | a :: t, k + 1, j + 1, x => by
    show mx_at (t.set k x) j = _
    rw [mx_at_set]
    simp [mx_at]
theorem mx_ll_mem {G : mxGl} {ls : mxLs} {k : Nat} {w : Value} : (k, w) ∈ mx_ll G ls ↔ ∃ v, mx_at ls k = some v ∧ w = mx_rv G v := by
  unfold mx_ll
  rw [List.mem_filterMap]
  constructor
  · rintro ⟨j, -, h⟩
    cases hv : mx_at ls j with
    | none => rw [hv] at h; cases h
    | some v =>
      rw [hv] at h
      simp only [Option.map_some, Option.some.injEq, Prod.mk.injEq] at h
      obtain ⟨rfl, rfl⟩ := h
      exact ⟨v, hv, rfl⟩
  · rintro ⟨v, hv, rfl⟩
    exact ⟨k, List.mem_range.mpr (mx_at_lt hv), by rw [hv]; rfl⟩
def mx_LR (G : mxGl) (y : Nat) (ls : mxLs) (la : Array Slot) : Prop := ls.length = mxL y ∧ lv_has la (mxL y) (mx_ll G ls) ∧ ∀ k v, mx_at ls k = some v → v.category = 1
theorem mx_LR.get {G : mxGl} {y : Nat} {ls : mxLs} {la : Array Slot} (h : mx_LR G y ls la) {k : Nat} {v : Value} (hv : mx_at ls k = some v) : la[k]? = some (.val (mx_rv G v)) := h.2.1.2.2 (k, mx_rv G v) (mx_ll_mem.mpr ⟨v, hv, rfl⟩)
/-- what a store leaves -/
theorem mx_LR.put {G : mxGl} (hG : g_ok G) {y : Nat} {ls : mxLs} {la la' : Array Slot} (h : mx_LR G y ls la) {k : Nat} (hk : k < mxL y) {v : Value} (hc : v.category = 1) (h' : lv_has la' (mxL y) ((k, mx_rv G v) :: (mx_ll G ls).filter (fun q => !(q.1 == k) && !(q.1 + 1 == k && q.2.category == 2)))) : mx_LR G y (ls.set k (some v)) la' := by
  refine ⟨by rw [List.length_set]; exact h.1, ⟨h'.1, h'.2.1, ?_⟩, ?_⟩
  · rintro ⟨j, w⟩ hq
    obtain ⟨u, hu, rfl⟩ := mx_ll_mem.mp hq
    rw [mx_at_set] at hu
    by_cases hj : j = k
    · subst hj
      rw [if_pos ⟨rfl, by rw [h.1]; exact hk⟩] at hu
      cases hu
      exact h'.2.2 (j, mx_rv G v) List.mem_cons_self
    · rw [if_neg (fun q => hj q.1)] at hu
      refine h'.2.2 (j, mx_rv G u) (List.mem_cons_of_mem _ (List.mem_filter.mpr ⟨mx_ll_mem.mpr ⟨u, hu, rfl⟩, ?_⟩))
      have hcu := h.2.2 j u hu
      simp [hj, mx_rv_cat G hG, hcu]
  · intro j u hu
    rw [mx_at_set] at hu
    by_cases hj : j = k
    · subst hj
      rw [if_pos ⟨rfl, by rw [h.1]; exact hk⟩] at hu
      cases hu
      exact hc
    · rw [if_neg (fun q => hj q.1)] at hu
      exact h.2.2 j u hu
theorem mx_LR.drop {G : mxGl} (hG : g_ok G) {y : Nat} {ls : mxLs} {la la' : Array Slot} (h : mx_LR G y ls la) {k : Nat} {w : Value} (h' : lv_has la' (mxL y) ((k, w) :: (mx_ll G ls).filter (fun q => !(q.1 == k) && !(q.1 + 1 == k && q.2.category == 2)))) : mx_LR G y (ls.set k none) la' := by
  refine ⟨by rw [List.length_set]; exact h.1, ⟨h'.1, h'.2.1, ?_⟩, ?_⟩
  · rintro ⟨j, w⟩ hq
    obtain ⟨u, hu, rfl⟩ := mx_ll_mem.mp hq
    rw [mx_at_set] at hu
    by_cases hj : j = k ∧ k < ls.length
    · rw [if_pos hj] at hu; cases hu
    · rw [if_neg hj] at hu
      have hjk : j ≠ k := fun q => hj ⟨q, by rw [← q]; exact mx_at_lt hu⟩
      refine h'.2.2 (j, mx_rv G u) (List.mem_cons_of_mem _ (List.mem_filter.mpr ⟨mx_ll_mem.mpr ⟨u, hu, rfl⟩, ?_⟩))
      have hcu := h.2.2 j u hu
      simp [hjk, mx_rv_cat G hG, hcu]
  · intro j u hu
    rw [mx_at_set] at hu
    by_cases hj : j = k ∧ k < ls.length
    · rw [if_pos hj] at hu; cases hu
    · rw [if_neg hj] at hu
      exact h.2.2 j u hu
/-! the context of a method -/
def mx_cs (h : mxH) : Nat := mx_c h + mx_x h
noncomputable def mx_pc (y i : Nat) : Nat := (mx_pcs (mxC y) i).toNat
def mx_Cx (G : mxGl) (p : Program) (l : Launch) (s : State) (m : MethodId) (meth : Method) (c : Code) (y : Nat) : Prop :=
  p.tables.exec = Jvm.exec ∧ c.code = mxB y ∧ c.maxLocals = mxL y ∧ s.vm.findClass (mxCn (mxOw y)) = some m.cls ∧ mx_K G s ∧ mx_ST G s s.heap ∧ meth.locks = false ∧ meth.sig.returnType = mxR y ∧ meth.name = (mxN y).name ∧ g_ok G ∧ l.stackTraces = false ∧ c.exceptionTable.toList = tableOf (mxHh y) ∧ mx_ok y = true ∧ y < 347
def mx_WW (G : mxGl) (p : Program) (l : Launch) (e : Env) (R : Room) (s : State) (m : MethodId) (args : Array Value) (below : List Frame) (meth : Method) (c : Code) (y : Nat) (h0 : mxH) (Q : State → Prop) (i : Nat) (ls : mxLs) (st : List Value) (h : mxH) : Prop :=
  ∀ (H : Heap) (locs : List Loc) (la : Array Slot), mx_Rep G h H → va_S (g_F G) s.heap H locs → mx_LR G y ls la → W p l e R s m args below meth c H locs (mx_cs h - mx_cs h0) (mx_n h - mx_n h0) Q (F0 m (mx_pc y i) la (st.map (mx_rv G)))
theorem mx_ent {y i pc len : Nat} {ins : Instr} {r : List Nat} {v : Int32} (hok : mx_ok y = true) (he : (mxC y)[i]? = some (pc, ins, len, r, v)) :
    decode (mxB y) pc = .ok (ins, len) ∧ mx_pc y i = pc ∧ (∀ n, mx_ln ins = some n → len = n ∧ mx_pc y (i + 1) = pc + n) ∧ mx_ok2 y (mxC y) i pc ins len r v = true := by
  unfold mx_ok at hok
  rw [Bool.and_eq_true, List.all_eq_true] at hok
  have h1 := hok.2 i (List.mem_range.mpr (List.getElem?_eq_some_iff.mp he).1)
  unfold mx_ok1 at h1
  simp only [he, Bool.and_eq_true, decide_eq_true_eq] at h1
  obtain ⟨⟨h2, h3⟩, h4⟩ := h1
  have hp : mx_pc y i = pc := by
    unfold mx_pc mx_pcs
    rw [he]
    rfl
  refine ⟨h2, hp, fun n hn => ?_, h4⟩
  rw [hn] at h3
  simp only [Bool.and_eq_true, decide_eq_true_eq] at h3
  refine ⟨h3.1, ?_⟩
  unfold mx_pc
  rw [h3.2]
  omega
theorem mx_pc_of {y t : Nat} {z : Int} {pc : Nat} (h : mx_pcs (mxC y) t = (pc : Int) + z) (h0 : ∃ e, (mxC y)[t]? = some e) : (pc : Int) + z = (mx_pc y t : Int) := by
  obtain ⟨e, he⟩ := h0
  unfold mx_pc
  rw [← h]
  unfold mx_pcs
  rw [he]
  rfl
theorem mx_pcs_in {L : List mxE} {t : Nat} {z : Int} (h : mx_pcs L t = z) (hz : 0 ≤ z) : ∃ e, L[t]? = some e := by
  unfold mx_pcs at h
  cases he : L[t]? with
  | none => rw [he] at h; simp only at h; omega
  | some e => exact ⟨e, rfl⟩
