/-! members of the tables, more -/
theorem mx_Wt2 (i : Nat) {w : Cond} (h : tables_1_2[i]? = some w) : w ∈ lw_tbl := by
  have h1 : w ∈ tables_1_2 := List.mem_of_getElem? h
  unfold lw_tbl tables_1
  simp only [List.mem_append]
  simp only [h1, true_or, or_true]
theorem mx_Wt6 (i : Nat) {w : Cond} (h : tables_1_6[i]? = some w) : w ∈ lw_tbl := by
  have h1 : w ∈ tables_1_6 := List.mem_of_getElem? h
  unfold lw_tbl tables_1
  simp only [List.mem_append]
  simp only [h1, true_or, or_true]
theorem mx_Wt7 (i : Nat) {w : Cond} (h : tables_1_7[i]? = some w) : w ∈ lw_tbl := by
  have h1 : w ∈ tables_1_7 := List.mem_of_getElem? h
  unfold lw_tbl tables_1
  simp only [List.mem_append]
  simp only [h1, true_or, or_true]
theorem mx_Wt8 (i : Nat) {w : Cond} (h : tables_1_8[i]? = some w) : w ∈ lw_tbl := by
  have h1 : w ∈ tables_1_8 := List.mem_of_getElem? h
  unfold lw_tbl tables_1
  simp only [List.mem_append]
  simp only [h1, true_or, or_true]
/-! THE LAW'S START, 2: the tables and the statics hold (written by gen_start.py) -/
theorem mx_inst : ∀ ci, ci < 11 → Cond.instantiable (mx_cn ci) (mxNf ci) ∈ mxAll := fun ci h => match ci, h with | 0, _ => mx_cx (8, 25, 0) (by decide) | 1, _ => mx_cx (9, 23, 1) (by decide) | 2, _ => mx_cx (9, 47, 2) (by decide) | 3, _ => mx_cx (9, 16, 3) (by decide) | 4, _ => mx_cx (8, 9, 4) (by decide) | 5, _ => mx_cx (9, 30, 5) (by decide) | 6, _ => mx_cx (8, 18, 6) (by decide) | 7, _ => mx_cx (9, 7, 7) (by decide) | 8, _ => mx_cx (9, 37, 8) (by decide) | 9, _ => mx_cx (12, 8, 9) (by decide) | 10, _ => mx_cx (12, 124, 10) (by decide) | n + 11, h => absurd h (by omega)
theorem mx_cls_of {args : Array Value} {s : State} (hts : ∀ w ∈ lw_tbl, w.before args s = true) : ∃ D : va_G, ∀ (c : Nat) (q : vw_C), vwCl[c]? = some q → u_Kn s q.1 q.2.1 q.2.2 (D.1 c) (D.2 c) := by
  have h : ∀ ci, ci < 11 → ∃ q : ClassId × (Nat → Nat), u_Kn s (mx_cn ci) (mx_tf ci) (mxNf ci) q.1 q.2 := by
    intro ci hc
    obtain ⟨cC, iS, hK⟩ := u_known (ws := mxAll) (args := args) (fun w hw => hts w (List.mem_filter.mp hw).1) (mx_uw hc) (hts _ (List.mem_filter.mp (mx_inst ci hc)).1)
    exact ⟨(cC, iS), hK⟩
  obtain ⟨f, hf⟩ := mx_choose (0, fun _ => 0) h
  refine ⟨(fun c => (f c).1, fun c => (f c).2), fun c q hq => ?_⟩
  have hc : c < 11 := by
    have h9 := (List.getElem?_eq_some_iff.mp hq).1
    exact h9
  rw [mx_cl_get hc] at hq
  cases hq
  exact hf c hc
theorem mx_aP {args : Array Value} {s : State} {ty : FieldType} (h : (Cond.arrayClass ty).before args s = true) : ∃ cA, ArrOfT s cA ty ∧ s.vm.findClass ("[" ++ ty.toString) = some cA := by
  obtain ⟨cA, kA, comp, h1, h2, h3⟩ := Cond.arrayClass_spec h
  exact ⟨cA, fun n z => ⟨fun k h => (by cases h), kA, h2, comp, h3⟩, h1⟩
theorem mx_aO {args : Array Value} {s : State} {C : String} (h : (Cond.arrayOver (.object C)).before args s = true) : ∃ cA, ArrOfT s cA (.object C) ∧ va_RA s cA (.object C) := by
  obtain ⟨comp, cA, kA, h1, -, h2, h3, h4⟩ := Cond.arrayOver_spec h
  exact ⟨cA, fun n z => ⟨fun k h => (by cases h), kA, h2, comp, h3⟩, kA, comp, h2, h3, h1, h4⟩
theorem mx_arrs {args : Array Value} {s : State} (hts : ∀ w ∈ lw_tbl, w.before args s = true) : ∃ cA : Nat → ClassId, (ArrOfT s (cA 0) .int ∧ va_RA s (cA 0) .int) ∧ (ArrOfT s (cA 1) .byte ∧ va_RA s (cA 1) .byte) ∧ (ArrOfT s (cA 2) .long ∧ va_RA s (cA 2) .long) ∧ (ArrOfT s (cA 3) (.object "StoneBacks$Word") ∧ va_RA s (cA 3) (.object "StoneBacks$Word")) ∧ (ArrOfT s (cA 4) (.object "StoneBacks$Valley") ∧ va_RA s (cA 4) (.object "StoneBacks$Valley")) := by
  obtain ⟨a0, h0⟩ := mx_aP (hts _ (mx_Wt1 74 rfl))
  obtain ⟨a1, h1⟩ := mx_aP (hts _ (mx_Wt1 73 rfl))
  obtain ⟨a2, h2⟩ := mx_aP (hts _ (mx_Wt9 141 rfl))
  obtain ⟨a3, h3⟩ := mx_aO (hts _ (mx_Wt1 45 rfl))
  obtain ⟨a4, h4⟩ := mx_aO (hts _ (mx_Wt2 107 rfl))
  exact ⟨fun k => [a0, a1, a2, a3, a4].getD k 0, h0, h1, h2, h3, h4⟩
theorem mx_lds {args : Array Value} {s : State} {sa : Nat → Nat} (hts : ∀ w ∈ lw_tbl, w.before args s = true) (hn : mx_Hs args s) (hS : ∀ k, k < 26 → (Term.string "StoneBacks$Word" (mxSi.getD k 0)).eval args s none [] s = some (.ref (sa k))) : ∀ q ∈ mxLDt, ∃ tx, vk_R (mxCn q.1) q.2.1 tx (sa ((q.2.2 - 30) / 2)) s := List.forall_mem_cons.mpr ⟨⟨_, vk_R.of (hts _ (mx_Wt7 237 rfl)) (va_eqv (mx_f3 hn 289 rfl) (hS 21 (by decide)))⟩, List.forall_mem_cons.mpr ⟨⟨_, vk_R.of (hts _ (mx_Wt8 17 rfl)) (va_eqv (mx_f3 hn 296 rfl) (hS 2 (by decide)))⟩, List.forall_mem_cons.mpr ⟨⟨_, vk_R.of (hts _ (mx_Wt8 18 rfl)) (va_eqv (mx_f3 hn 305 rfl) (hS 1 (by decide)))⟩, List.forall_mem_cons.mpr ⟨⟨_, vk_R.of (hts _ (mx_Wt8 28 rfl)) (va_eqv (mx_f3 hn 322 rfl) (hS 4 (by decide)))⟩, List.forall_mem_cons.mpr ⟨⟨_, vk_R.of (hts _ (mx_Wt8 29 rfl)) (va_eqv (mx_f3 hn 329 rfl) (hS 5 (by decide)))⟩, List.forall_mem_cons.mpr ⟨⟨_, vk_R.of (hts _ (mx_Wt8 34 rfl)) (va_eqv (mx_f3 hn 338 rfl) (hS 6 (by decide)))⟩, List.forall_mem_cons.mpr ⟨⟨_, vk_R.of (hts _ (mx_Wt8 35 rfl)) (va_eqv (mx_f3 hn 345 rfl) (hS 7 (by decide)))⟩, List.forall_mem_cons.mpr ⟨⟨_, vk_R.of (hts _ (mx_Wt8 8 rfl)) (va_eqv (mx_f3 hn 280 rfl) (hS 0 (by decide)))⟩, List.forall_mem_cons.mpr ⟨⟨_, vk_R.of (hts _ (mx_Wt8 23 rfl)) (va_eqv (mx_f3 hn 315 rfl) (hS 3 (by decide)))⟩, List.forall_mem_cons.mpr ⟨⟨_, vk_R.of (hts _ (mx_Wt7 239 rfl)) (va_eqv (mx_f3 hn 355 rfl) (hS 23 (by decide)))⟩, List.forall_mem_cons.mpr ⟨⟨_, vk_R.of (hts _ (mx_Wt8 44 rfl)) (va_eqv (mx_f3 hn 365 rfl) (hS 8 (by decide)))⟩, List.forall_mem_cons.mpr ⟨⟨_, vk_R.of (hts _ (mx_Wt8 45 rfl)) (va_eqv (mx_f3 hn 375 rfl) (hS 9 (by decide)))⟩, List.forall_mem_cons.mpr ⟨⟨_, vk_R.of (hts _ (mx_Wt8 1 rfl)) (va_eqv (mx_f3 hn 384 rfl) (hS 25 (by decide)))⟩, List.forall_mem_cons.mpr ⟨⟨_, vk_R.of (hts _ (mx_Wt7 235 rfl)) (va_eqv (mx_f4 hn 69 rfl) (hS 19 (by decide)))⟩, List.forall_mem_cons.mpr ⟨⟨_, vk_R.of (hts _ (mx_Wt7 236 rfl)) (va_eqv (mx_f4 hn 78 rfl) (hS 20 (by decide)))⟩, List.forall_mem_cons.mpr ⟨⟨_, vk_R.of (hts _ (mx_Wt7 238 rfl)) (va_eqv (mx_f4 hn 88 rfl) (hS 22 (by decide)))⟩, List.forall_mem_cons.mpr ⟨⟨_, vk_R.of (hts _ (mx_Wt8 0 rfl)) (va_eqv (mx_f4 hn 98 rfl) (hS 24 (by decide)))⟩, List.forall_mem_cons.mpr ⟨⟨_, vk_R.of (hts _ (mx_Wt7 225 rfl)) (va_eqv (mx_f4 hn 36 rfl) (hS 17 (by decide)))⟩, List.forall_mem_cons.mpr ⟨⟨_, vk_R.of (hts _ (mx_Wt7 226 rfl)) (va_eqv (mx_f4 hn 46 rfl) (hS 18 (by decide)))⟩, List.forall_mem_cons.mpr ⟨⟨_, vk_R.of (hts _ (mx_Wt7 216 rfl)) (va_eqv (mx_f4 hn 26 rfl) (hS 16 (by decide)))⟩, List.forall_mem_cons.mpr ⟨⟨_, vk_R.of (hts _ (mx_Wt8 2 rfl)) (va_eqv (mx_f4 hn 54 rfl) (hS 15 (by decide)))⟩, List.forall_mem_cons.mpr ⟨⟨_, vk_R.of (hts _ (mx_Wt8 3 rfl)) (va_eqv (mx_f4 hn 61 rfl) (hS 14 (by decide)))⟩, List.forall_mem_cons.mpr ⟨⟨_, vk_R.of (hts _ (mx_Wt7 186 rfl)) (va_eqv (mx_f3 hn 393 rfl) (hS 10 (by decide)))⟩, List.forall_mem_cons.mpr ⟨⟨_, vk_R.of (hts _ (mx_Wt7 193 rfl)) (va_eqv (mx_f4 hn 2 rfl) (hS 11 (by decide)))⟩, List.forall_mem_cons.mpr ⟨⟨_, vk_R.of (hts _ (mx_Wt7 194 rfl)) (va_eqv (mx_f4 hn 11 rfl) (hS 12 (by decide)))⟩, List.forall_mem_cons.mpr ⟨⟨_, vk_R.of (hts _ (mx_Wt7 203 rfl)) (va_eqv (mx_f4 hn 18 rfl) (hS 13 (by decide)))⟩, fun _ h => absurd h List.not_mem_nil⟩⟩⟩⟩⟩⟩⟩⟩⟩⟩⟩⟩⟩⟩⟩⟩⟩⟩⟩⟩⟩⟩⟩⟩⟩⟩
theorem mx_rex {args : Array Value} {s : State} {own tx : String} {i : Nat} (h : (Cond.stringRef own i tx).before args s = true) (hex : (Cond.exactly (.string own i) "java/lang/String").before args s = true) : ∃ tx sa, vk_R own i tx sa s := by
  obtain ⟨a, c, cell, k, q1, -⟩ := Cond.exactly_spec hex
  exact ⟨tx, a, vk_R.of h q1⟩
theorem mx_tss {args : Array Value} {s : State} (hts : ∀ w ∈ lw_tbl, w.before args s = true) (hn : mx_Hs args s) : ∀ i ∈ mxTSt, ∃ tx sa, vk_R "StoneBacks" i tx sa s := List.forall_mem_cons.mpr ⟨mx_rex (hts _ (mx_Wt4 140 rfl)) (mx_f1 hn 260 rfl), List.forall_mem_cons.mpr ⟨mx_rex (hts _ (mx_Wt4 175 rfl)) (mx_f1 hn 281 rfl), List.forall_mem_cons.mpr ⟨mx_rex (hts _ (mx_Wt5 104 rfl)) (mx_f1 hn 330 rfl), List.forall_mem_cons.mpr ⟨mx_rex (hts _ (mx_Wt5 118 rfl)) (mx_f1 hn 359 rfl), List.forall_mem_cons.mpr ⟨mx_rex (hts _ (mx_Wt5 137 rfl)) (mx_f2 hn 15 rfl), List.forall_mem_cons.mpr ⟨mx_rex (hts _ (mx_Wt5 159 rfl)) (mx_f2 hn 69 rfl), List.forall_mem_cons.mpr ⟨mx_rex (hts _ (mx_Wt5 168 rfl)) (mx_f2 hn 97 rfl), List.forall_mem_cons.mpr ⟨mx_rex (hts _ (mx_Wt5 179 rfl)) (mx_f2 hn 135 rfl), List.forall_mem_cons.mpr ⟨mx_rex (hts _ (mx_Wt5 211 rfl)) (mx_f2 hn 156 rfl), List.forall_mem_cons.mpr ⟨mx_rex (hts _ (mx_Wt5 219 rfl)) (mx_f2 hn 177 rfl), List.forall_mem_cons.mpr ⟨mx_rex (hts _ (mx_Wt5 232 rfl)) (mx_f2 hn 200 rfl), List.forall_mem_cons.mpr ⟨mx_rex (hts _ (mx_Wt5 233 rfl)) (mx_f2 hn 221 rfl), List.forall_mem_cons.mpr ⟨mx_rex (hts _ (mx_Wt6 7 rfl)) (mx_f2 hn 247 rfl), List.forall_mem_cons.mpr ⟨mx_rex (hts _ (mx_Wt6 15 rfl)) (mx_f2 hn 272 rfl), List.forall_mem_cons.mpr ⟨mx_rex (hts _ (mx_Wt6 38 rfl)) (mx_f2 hn 300 rfl), List.forall_mem_cons.mpr ⟨mx_rex (hts _ (mx_Wt6 139 rfl)) (mx_f2 hn 326 rfl), List.forall_mem_cons.mpr ⟨mx_rex (hts _ (mx_Wt6 151 rfl)) (mx_f2 hn 342 rfl), List.forall_mem_cons.mpr ⟨mx_rex (hts _ (mx_Wt6 182 rfl)) (mx_f2 hn 381 rfl), List.forall_mem_cons.mpr ⟨mx_rex (hts _ (mx_Wt7 9 rfl)) (mx_f3 hn 10 rfl), List.forall_mem_cons.mpr ⟨mx_rex (hts _ (mx_Wt7 61 rfl)) (mx_f3 hn 41 rfl), List.forall_mem_cons.mpr ⟨mx_rex (hts _ (mx_Wt5 61 rfl)) (mx_f1 hn 303 rfl), List.forall_mem_cons.mpr ⟨mx_rex (hts _ (mx_Wt5 131 rfl)) (mx_f1 hn 389 rfl), List.forall_mem_cons.mpr ⟨mx_rex (hts _ (mx_Wt5 149 rfl)) (mx_f2 hn 43 rfl), fun _ h => absurd h List.not_mem_nil⟩⟩⟩⟩⟩⟩⟩⟩⟩⟩⟩⟩⟩⟩⟩⟩⟩⟩⟩⟩⟩⟩⟩
theorem mx_ncs {args : Array Value} {s : State} (hn : mx_Hs args s) : ∀ i j, i < 5 → j < 5 → i ≠ j → va_Nc (mxXn.getD i "") (mxXn.getD j "") s := fun i j hi hj hij => match i, j, hi, hj, hij with | 0, 0, _, _, h => absurd rfl h | 0, 1, _, _, _ => va_Nc.of (mx_f1 hn 172 rfl) | 0, 2, _, _, _ => va_Nc.of (mx_f1 hn 188 rfl) | 0, 3, _, _, _ => va_Nc.of (mx_f1 hn 204 rfl) | 0, 4, _, _, _ => va_Nc.of (mx_f1 hn 220 rfl) | 1, 0, _, _, _ => va_Nc.of (mx_f1 hn 156 rfl) | 1, 1, _, _, h => absurd rfl h | 1, 2, _, _, _ => va_Nc.of (mx_f1 hn 189 rfl) | 1, 3, _, _, _ => va_Nc.of (mx_f1 hn 205 rfl) | 1, 4, _, _, _ => va_Nc.of (mx_f1 hn 221 rfl) | 2, 0, _, _, _ => va_Nc.of (mx_f1 hn 157 rfl) | 2, 1, _, _, _ => va_Nc.of (mx_f1 hn 173 rfl) | 2, 2, _, _, h => absurd rfl h | 2, 3, _, _, _ => va_Nc.of (mx_f1 hn 206 rfl) | 2, 4, _, _, _ => va_Nc.of (mx_f1 hn 222 rfl) | 3, 0, _, _, _ => va_Nc.of (mx_f1 hn 158 rfl) | 3, 1, _, _, _ => va_Nc.of (mx_f1 hn 174 rfl) | 3, 2, _, _, _ => va_Nc.of (mx_f1 hn 190 rfl) | 3, 3, _, _, h => absurd rfl h | 3, 4, _, _, _ => va_Nc.of (mx_f1 hn 223 rfl) | 4, 0, _, _, _ => va_Nc.of (mx_f1 hn 159 rfl) | 4, 1, _, _, _ => va_Nc.of (mx_f1 hn 175 rfl) | 4, 2, _, _, _ => va_Nc.of (mx_f1 hn 191 rfl) | 4, 3, _, _, _ => va_Nc.of (mx_f1 hn 207 rfl) | 4, 4, _, _, h => absurd rfl h | n + 5, _, h, _, _ => absurd h (by omega) | _, n + 5, _, h, _ => absurd h (by omega)
def mx_ga (b tW : Nat) (ad aK aV : Nat → Nat) : Nat → Nat := fun n => if n = 1 then b else if n = 2 then tW else if n < 29 then ad (n - 3) else if n % 2 = 0 then aK ((n - 30) / 2) else aV ((n - 31) / 2)
theorem mx_ga_w {b tW : Nat} {ad aK aV : Nat → Nat} {k : Nat} (hk : k < 26) : mx_ga b tW ad aK aV (3 + k) = ad k := by
  unfold mx_ga
  rw [if_neg (by omega), if_neg (by omega), if_pos (by omega), show 3 + k - 3 = k by omega]
theorem mx_ga_k {b tW : Nat} {ad aK aV : Nat → Nat} {k : Nat} : mx_ga b tW ad aK aV (30 + 2 * k) = aK k := by
  unfold mx_ga
  rw [if_neg (by omega), if_neg (by omega), if_neg (by omega), if_pos (by omega), show (30 + 2 * k - 30) / 2 = k by omega]
theorem mx_ga_v {b tW : Nat} {ad aK aV : Nat → Nat} {k : Nat} : mx_ga b tW ad aK aV (31 + 2 * k) = aV k := by
  unfold mx_ga
  rw [if_neg (by omega), if_neg (by omega), if_neg (by omega), if_neg (by omega), show (31 + 2 * k - 31) / 2 = k by omega]
theorem mx_wk_0 {args : Array Value} {w : Cond} {s : State} (hk : mx_wk w = true) (h : w.before args s = true) : w.before #[] s = true := by
  unfold mx_wk at hk
  split at hk
  · exact va_Nw.of rfl h
  · exact va_Nw.of rfl h
  · exact va_Nw.of rfl h
  · exact word_at (State.WarmedH.refl s) (good_of_word hk) h
