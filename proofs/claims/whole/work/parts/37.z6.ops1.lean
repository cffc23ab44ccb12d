/-! OPS 1: questions that both answer out of what they hold -/
section
variable {r : Nat → Int32} {x c : Int32}
theorem v01 {a b e : Int32} : V_191 r a b e = 0 ∨ V_191 r a b e = 1 := by
  unfold V_191
  split
  · exact .inl rfl
  · split
    · exact .inl rfl
    · exact .inr rfl
theorem v191_n (h0 : 0 ≤ c) (h : ¬ isI x c) : V_191 r x 0 (c - 1) = 0 := by
  unfold V_191
  by_cases e : x < 0
  · rw [if_pos e]
  · rw [if_neg e, if_pos]
    have : ¬ x < c := fun e2 => h ⟨e, e2⟩
    grind
theorem v191_y (h0 : 0 ≤ c) (h : isI x c) : V_191 r x 0 (c - 1) = 1 := by
  unfold V_191
  rw [if_neg h.1, if_neg]
  have := h.1
  have := h.2
  grind
theorem v191_n' {e : Int32} (h0 : 0 ≤ c) (he : e = c - 1) (h : ¬ isI x c) : V_191 r x 0 e = 0 := he ▸ v191_n h0 h
theorem v191_y' {e : Int32} (h0 : 0 ≤ c) (he : e = c - 1) (h : isI x c) : V_191 r x 0 e = 1 := he ▸ v191_y h0 h
end
section
variable {h : mxH} {v : Int32}
theorem thr0 : mx_i (mx_wi h 381 0 v) 381 0 = v := wi_at rfl rfl
theorem thr382 : mx_i (mx_wi h 381 0 v) 382 = mx_i h 382 := wi_ne (by decide)
end
theorem op_cross {LW : mxLW} (ok : LWok LW) (i1 : Int32) : Op LW 155 265 [.int i1] (fun k => if k = 2 then 1 else 0) := by
  intro h vn vd vr vq np ns nl I
  have C := I.2.2.1
  have h6 := C_np6 C
  have n0 : (0 : Int32) ≤ mx_i h 382 3 := C_np C ▸ nI0 (by omega)
  refine tr_155_0 I.1 I.2.1 ⟨fun c => ⟨C_cs C, fun v ev hm hmd => ?_⟩, fun c hm hmd => ?_⟩
  · rw [C_p C, ← C_np C] at c
    have em : mx_i hm 382 = mx_i h 382 := by rw [hmd.2.2.2.1]
    refine tr_265_0 (smr_G (smr_mdl (vd := vd) (vr := vr) (vq := vq) hmd) I.1) ⟨v01, fun v2 e2 h3 e3 => ?_⟩
    unfold V_200 at e2
    rw [em, v191_y n0 c] at e2
    have e2 : v2 = 0 := by simpa using e2
    subst e2
    subst e3
    rw [thr0, thr382, em]
    refine ⟨⟨fun _ => ⟨C_rs C, trivial⟩, fun e => absurd rfl e⟩, fun v6 e6 => ?_⟩
    refine op_fin ok I (smr_mdl hmd) (bud_mdl hmd) ⟨rfl, ?_⟩
    rw [ev, e6, if_pos rfl, cm_load C, show mx_i h vn 5 = mx_i h 382 6 from C.2.1.2.2.1]
  · rw [C_p C, ← C_np C] at c
    have em : mx_i hm 382 = mx_i h 382 := by rw [hmd.2.2.2.1]; rfl
    refine tr_265_0 (smr_G (smr_mdl (vd := vd) (vr := vr) (vq := vq) hmd) (mxG_ex I.1)) ⟨v01, fun v2 e2 h3 e3 => ?_⟩
    unfold V_200 at e2
    rw [em, v191_n n0 c] at e2
    have e2 : v2 = 1 := by simpa using e2
    subst e2
    subst e3
    rw [thr0]
    refine ⟨⟨fun e => absurd e (by decide), fun _ => trivial⟩, fun v6 e6 => ?_⟩
    exact op_fin ok I (smr_tr smr_ex (smr_mdl hmd)) (bud_ex hmd) ⟨rfl, by decide⟩
theorem vp_of_isI {x : Int32} {n m : Nat} (hn : n < 2 ^ 31) (h31 : m < 2 ^ 31) (hm : n ≤ m) (h : isI x (nI n)) : vp_in x m := by
  obtain ⟨j, hj, rfl⟩ := isI_nI hn h
  exact vp_in_nI (by omega) h31
/-- what follows a call of the class: the model's start -/
theorem md_382 {h hm : mxH} (u : mdl h hm) (b : Nat) : mx_i hm b = mx_i h b := by rw [u.2.2.2.1]
def mPer (r : Nat → Int32) (i1 i2 : Int32) : Int32 := if i2 < 6 then V_196 r i1 i2 else if i2 = 6 then V_205 r i1 else if i2 = 7 then V_203 r i1 else if i2 = 8 then V_204 r (V_243 r i1 0) else if i2 = 9 then V_204 r (V_243 r i1 1) else if i2 = 10 then V_203 r i1 &&& (V_243 r i1 0 ^^^ (-1)) else if V_206 r i1 = 0 then 0 else 1
section
variable {d : Nat} {h : mxH} {Q : mxO → mxH → Prop} {i1 i2 : Int32} {np ns : Nat}
theorem mo_244_a (G : mxG h) (e3 : mx_i h 382 3 = nI np) (h6 : np ≤ 6) (c : ¬ isI i1 (mx_i h 382 3)) (k : Q (.inl (some (.int 0))) (mx_wi h 381 0 1)) : mx_wp (d + 4) 244 0 (mx_fr 244 [.ref 381, .int i1, .int i2]) [] h Q := by
  refine tr_244_0 G ⟨v01, fun v2 e2 h3 e3' => ?_⟩
  unfold V_200 at e2
  rw [v191_n (e3 ▸ nI0 (by omega)) c] at e2
  have e2 : v2 = 1 := by simpa using e2
  subst e2
  subst e3'
  rw [thr0]
  exact ⟨fun _ => k, fun q => absurd (by decide) q⟩
theorem mo_244_b (G : mxG h) (e3 : mx_i h 382 3 = nI np) (h6 : np ≤ 6) (c : isI i1 (mx_i h 382 3)) (c2 : ¬ isI i2 12) (k : Q (.inl (some (.int 0))) (mx_wi h 381 0 2)) : mx_wp (d + 4) 244 0 (mx_fr 244 [.ref 381, .int i1, .int i2]) [] h Q := by
  refine tr_244_0 G ⟨v01, fun v2 e2 h3 e3' => ?_⟩
  unfold V_200 at e2
  rw [v191_y (e3 ▸ nI0 (by omega)) c, v191_n' (by decide) (by decide) c2] at e2
  have e2 : v2 = 2 := by simpa using e2
  subst e2
  subst e3'
  rw [thr0]
  exact ⟨fun _ => k, fun q => absurd (by decide) q⟩
theorem mo_244_c (G : mxG h) (e3 : mx_i h 382 3 = nI np) (h6 : np ≤ 6) (e4 : mx_i h 382 4 = nI ns) (h10 : ns ≤ 10) (c : isI i1 (mx_i h 382 3)) (c2 : isI i2 12) (k : Q (.inl (some (.int (mPer (mx_i h 382) i1 i2)))) (mx_wi h 381 0 0)) : mx_wp (d + 4) 244 0 (mx_fr 244 [.ref 381, .int i1, .int i2]) [] h Q := by
  refine tr_244_0 G ⟨v01, fun v2 e2 h3 e3' => ?_⟩
  unfold V_200 at e2
  rw [v191_y (e3 ▸ nI0 (by omega)) c, v191_y' (by decide) (by decide) c2] at e2
  have e2 : v2 = 0 := by simpa using e2
  subst e2
  subst e3'
  rw [e3] at c
  obtain ⟨x, hx, rfl⟩ := isI_nI (by omega) c
  have cs : cB (mx_i h 382 4) 10 := ⟨ns, h10, e4⟩
  rw [thr0, thr382]
  unfold mPer at k
  have i06 : isI (0 : Int32) 6 := by unfold isI; decide
  have i16 : isI (1 : Int32) 6 := by unfold isI; decide
  refine ⟨fun q => absurd q (by decide), fun _ => ⟨fun q => ?_, fun q => ⟨fun q2 => ?_, fun q2 => ⟨fun q3 => ?_, fun q3 => ⟨fun q4 => ?_, fun q4 => ⟨fun q5 => ?_, fun q5 => ⟨⟨fun _ => ⟨cs, i06, trivial⟩, fun _ => ⟨cs, vpU (by omega), ⟨fun _ => trivial, fun _ => ⟨vpU (by omega), fun _ => trivial, fun _ => ⟨vpU (by omega), trivial⟩⟩⟩, trivial⟩⟩, fun v12 e12 => ?_⟩⟩⟩⟩⟩⟩⟩
  · rw [if_pos q] at k
    refine ⟨?_, k⟩
    obtain ⟨j, hj, rfl⟩ := isI_nI (n := 12) (by decide) c2
    have hj6 : j < 6 := (nI_ltI (by omega) (by decide)).mp q
    rw [ixU]
    exact vp_in_nI (by omega) (by decide)
  · rw [if_neg q, if_pos q2] at k; exact ⟨cs, k⟩
  · rw [if_neg q, if_neg q2, if_pos q3] at k; exact ⟨cs, k⟩
  · rw [if_neg q, if_neg q2, if_neg q3, if_pos q4] at k; exact ⟨cs, i06, k⟩
  · rw [if_neg q, if_neg q2, if_neg q3, if_neg q4, if_pos q5] at k; exact ⟨cs, i16, k⟩
  · rw [if_neg q, if_neg q2, if_neg q3, if_neg q4, if_neg q5] at k; rw [e12]; exact k
end
theorem op_person {LW : mxLW} (ok : LWok LW) (i1 i2 : Int32) : Op LW 138 244 [.int i1, .int i2] (fun k => if k = 2 then 1 else if k = 3 then 2 else 0) := by
  intro h vn vd vr vq np ns nl I
  have C := I.2.2.1
  have h6 := C_np6 C
  -- a leaf with an answer
  have leaf : ∀ v, isI i1 (mx_i h 382 3) → isI i2 12 → v = mPer (mx_i h 382) i1 i2 → ∀ hm, mdl h hm → mx_wp 500 244 0 (mx_fr 244 [.ref 381, .int i1, .int i2]) [] hm (fun o2 h2 => ∃ b, o2 = .inl (some (.int b)) ∧ ansOk (fun k => if k = 2 then 1 else if k = 3 then 2 else 0) (.inl (some (.int v))) b (mx_i h2 381 0) ∧ bud h h2 ∧ ∃ vn vd vr vq np ns nl, Inv LW h2 vn vd vr vq np ns nl) := by
    intro v c c2 hv hm hmd
    have em := md_382 hmd 382
    refine mo_244_c (np := np) (ns := ns) (smr_G (smr_mdl (vd := vd) (vr := vr) (vq := vq) hmd) I.1) (by rw [em]; exact C_np C) h6 (by rw [em]; exact C_ns C) (C_ns10 C) (by rw [em]; exact c) c2 ?_
    exact op_fin ok I (smr_mdl hmd) (bud_mdl hmd) ⟨rfl, by rw [em]; exact hv⟩
  refine tr_138_0 I.1 I.2.1 ⟨fun c => ?_, fun c hm hmd => ?_⟩
  · rw [C_p C, ← C_np C] at c
    have c' := c
    rw [C_np C] at c'
    obtain ⟨x, hx, rfl⟩ := isI_nI (by omega) c'
    have vp : vp_in (nI x) 6 := vp_in_nI (by omega) (by decide)
    have cl : (nI x).toNatClampNeg = x := nI_clamp (by omega)
    have hm1 : ¬ nI x = -1 := fun e => absurd (e ▸ nI0 (n := x) (by omega)) (by decide)
    rw [cl]
    refine ⟨fun q => ⟨vp, leaf _ c ?_ ?_⟩, fun q0 => ⟨fun q => ⟨vp, leaf _ c ?_ ?_⟩, fun q1 => ⟨fun q => ⟨vp, leaf _ c ?_ ?_⟩, fun q2 => ⟨fun q => ⟨vp, leaf _ c ?_ ?_⟩, fun q3 => ⟨fun q => ⟨vp, leaf _ c ?_ ?_⟩, fun q4 => ⟨fun q v ev => leaf _ c ?_ ?_, fun q5 => ⟨fun q => ⟨C_cs C, leaf _ c ?_ ?_⟩, fun q6 => ⟨fun q => ⟨C_cs C, leaf _ c ?_ ?_⟩, fun q7 => ⟨fun q => ⟨C_cs C, leaf _ c ?_ ?_⟩, fun q8 => ⟨fun q => ⟨C_cs C, leaf _ c ?_ ?_⟩, fun q9 => ⟨fun q => ⟨C_cs C, leaf _ c ?_ ?_⟩, fun q10 => ⟨fun q => ⟨⟨fun _ => ⟨vp, fun _ => trivial, fun _ => ⟨C_cs C, trivial⟩⟩, fun _ => trivial⟩, fun v ev => leaf _ c ?_ ?_⟩, fun q11 hm hmd => ?_⟩⟩⟩⟩⟩⟩⟩⟩⟩⟩⟩⟩
    · subst q; unfold isI; decide
    · subst q; rw [Cu2 C hx]; show _ = V_196 (mx_i h 382) _ _; rw [u0 (by omega)]
    · subst q; unfold isI; decide
    · subst q; rw [Cu3 C hx]; show _ = V_196 (mx_i h 382) _ _; rw [u1 (by omega)]
    · subst q; unfold isI; decide
    · subst q; rw [Cu4 C hx]; show _ = V_196 (mx_i h 382) _ _; rw [u2 (by omega)]
    · subst q; unfold isI; decide
    · subst q; rw [Cu5 C hx]; show _ = V_196 (mx_i h 382) _ _; rw [u3 (by omega)]
    · subst q; unfold isI; decide
    · subst q; rw [Cu6 C hx]; show _ = V_196 (mx_i h 382) _ _; rw [u4 (by omega)]
    · subst q; unfold isI; decide
    · subst q
      rw [ev, cm_isHurt C hx]
      show _ = V_196 (mx_i h 382) _ _
      rw [u5 (by omega), Cu_h C hx, tbv _ (by omega)]
      cases bt (mx_i h (vn + 1) 6) x <;> simp
    · subst q; unfold isI; decide
    · subst q; exact cm_load C _
    · subst q; unfold isI; decide
    · subst q; exact cm_worn C hm1
    · subst q; unfold isI; decide
    · subst q; exact cm_owedBy C _
    · subst q; unfold isI; decide
    · subst q; exact cm_dueTo C _
    · subst q; unfold isI; decide
    · subst q; exact cm_wornFor C hm1
    · subst q; unfold isI; decide
    · subst q; rw [ev, cm_bowed C hx]; rfl
    · have em := md_382 hmd 382
      refine mo_244_b (np := np) (smr_G (smr_mdl (vd := vd) (vr := vr) (vq := vq) hmd) (mxG_ex I.1)) (by rw [em]; exact C_np C) h6 (by rw [em]; exact c) (fun e => ?_) ?_
      · obtain ⟨j, hj, rfl⟩ := isI_nI (n := 12) (by decide) e
        have : j = 0 ∨ j = 1 ∨ j = 2 ∨ j = 3 ∨ j = 4 ∨ j = 5 ∨ j = 6 ∨ j = 7 ∨ j = 8 ∨ j = 9 ∨ j = 10 ∨ j = 11 := by omega
        rcases this with rfl | rfl | rfl | rfl | rfl | rfl | rfl | rfl | rfl | rfl | rfl | rfl
        · exact q0 rfl
        · exact q1 rfl
        · exact q2 rfl
        · exact q3 rfl
        · exact q4 rfl
        · exact q5 rfl
        · exact q6 rfl
        · exact q7 rfl
        · exact q8 rfl
        · exact q9 rfl
        · exact q10 rfl
        · exact q11 rfl
      · exact op_fin ok I (smr_tr smr_ex (smr_mdl hmd)) (bud_ex hmd) ⟨rfl, by decide⟩
  · rw [C_p C, ← C_np C] at c
    have em : mx_i hm 382 = mx_i h 382 := md_382 hmd 382
    refine mo_244_a (np := np) (smr_G (smr_mdl (vd := vd) (vr := vr) (vq := vq) hmd) (mxG_ex I.1)) (by rw [em]; exact C_np C) h6 (by rw [em]; exact c) ?_
    exact op_fin ok I (smr_tr smr_ex (smr_mdl hmd)) (bud_ex hmd) ⟨rfl, by decide⟩
