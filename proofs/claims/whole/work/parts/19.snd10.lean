/-! SOUNDNESS, 10: one step of the small machine, by cases; what grows; ends -/
theorem mx_F_cases {g : Nat → Nat → Nat → mxLs → List Value → mxH → Option (mxO × mxH)} {d y i : Nat} {ls : mxLs} {st : List Value} {h h' : mxH} {o : mxO} (H : mx_F g d y i ls st h = some (o, h')) :
    ∃ pc ins len r v, (mxC y)[i]? = some (pc, ins, len, r, v) ∧ (
      (∃ ls' st', mx_A ins r v ls st = some (ls', st') ∧ g d y (i + 1) ls' st' h = some (o, h')) ∨
      (∃ st' h1 P, mx_B ins r st h = some (st', h1, P) ∧ P ∧ g d y (i + 1) ls st' h1 = some (o, h')) ∨
      (∃ j st', mx_J ins r v st = some (j, st') ∧ g d y j ls st' h = some (o, h')) ∨
      (∃ P cd st', mx_br ins st = some (P, cd, st') ∧ P ∧ ((cd ∧ g d y (r.headD 0) ls st' h = some (o, h')) ∨ (¬ cd ∧ g d y (i + 1) ls st' h = some (o, h')))) ∨
      (∃ v0 P, mx_ret y ins st = some (v0, P) ∧ P ∧ o = .inl v0 ∧ h' = h) ∨
      (∃ k, mx_thr ins r = some k ∧ mx_c h = 292 ∧ (st.map mx_cat).sum ≤ 8 ∧ o = .inr k ∧ h' = mx_ex h) ∨
      (∃ y' as rest P d', mx_cal ins r st h = some (y', as, rest, P) ∧ d = d' + 1 ∧ P ∧ (rest.map mx_cat).sum ≤ 8 ∧ ∃ o1 h1, g d' y' 0 (mx_fr y' as) [] h = some (o1, h1) ∧
        ((∃ w, o1 = .inl w ∧ g (d' + 1) y (i + 1) ls (w.toList ++ rest) h1 = some (o, h')) ∨
         (∃ k j q, o1 = .inr k ∧ mx_exc y i (mx_isI ins) k = some (some (j, q)) ∧ g (d' + 1) y j (ls.set q none) [] h1 = some (o, h')) ∨
         (∃ k, o1 = .inr k ∧ mx_exc y i (mx_isI ins) k = some none ∧ o = .inr k ∧ h' = h1)))) := by
  unfold mx_F at H
  cases hc : (mxC y)[i]? with
  | none => simp only [hc] at H; cases H
  | some e =>
    obtain ⟨pc, ins, len, r0, v⟩ := e
    refine ⟨pc, ins, len, r0, v, rfl, ?_⟩
    simp only [hc] at H
    cases hA : mx_A ins r0 v ls st with
    | some q => simp only [hA] at H; exact Or.inl ⟨q.1, q.2, rfl, H⟩
    | none =>
      refine Or.inr ?_
      simp only [hA] at H
      cases hB : mx_B ins r0 st h with
      | some q =>
        obtain ⟨st', h1, P⟩ := q
        simp only [hB] at H
        by_cases hP : P
        · simp only [if_pos hP] at H; exact Or.inl ⟨st', h1, P, rfl, hP, H⟩
        · simp only [if_neg hP] at H; cases H
      | none =>
        refine Or.inr ?_
        simp only [hB] at H
        cases hJ : mx_J ins r0 v st with
        | some q => simp only [hJ] at H; exact Or.inl ⟨q.1, q.2, rfl, H⟩
        | none =>
          refine Or.inr ?_
          simp only [hJ] at H
          cases hb : mx_br ins st with
          | some q =>
            obtain ⟨P, cd, st'⟩ := q
            simp only [hb] at H
            by_cases hP : P
            · simp only [if_pos hP] at H
              by_cases hcd : cd
              · simp only [if_pos hcd] at H; exact Or.inl ⟨P, cd, st', rfl, hP, Or.inl ⟨hcd, H⟩⟩
              · simp only [if_neg hcd] at H; exact Or.inl ⟨P, cd, st', rfl, hP, Or.inr ⟨hcd, H⟩⟩
            · simp only [if_neg hP] at H; cases H
          | none =>
            refine Or.inr ?_
            simp only [hb] at H
            cases hr : mx_ret y ins st with
            | some q =>
              obtain ⟨v0, P⟩ := q
              simp only [hr] at H
              by_cases hP : P
              · simp only [if_pos hP, Option.some.injEq, Prod.mk.injEq] at H
                exact Or.inl ⟨v0, P, rfl, hP, H.1.symm, H.2.symm⟩
              · simp only [if_neg hP] at H; cases H
            | none =>
              refine Or.inr ?_
              simp only [hr] at H
              cases ht : mx_thr ins r0 with
              | some k =>
                simp only [ht] at H
                by_cases hP : mx_c h = 292 ∧ (st.map mx_cat).sum ≤ 8
                · simp only [if_pos hP, Option.some.injEq, Prod.mk.injEq] at H
                  exact Or.inl ⟨k, rfl, hP.1, hP.2, H.1.symm, H.2.symm⟩
                · simp only [if_neg hP] at H; cases H
              | none =>
                refine Or.inr ?_
                simp only [ht] at H
                cases hl : mx_cal ins r0 st h with
                | none => simp only [hl] at H; cases H
                | some q =>
                  obtain ⟨y', as, rest, P⟩ := q
                  simp only [hl] at H
                  cases d with
                  | zero => cases H
                  | succ d' =>
                    simp only at H
                    by_cases hP : P ∧ (rest.map mx_cat).sum ≤ 8
                    · simp only [if_pos hP] at H
                      refine ⟨y', as, rest, P, d', rfl, rfl, hP.1, hP.2, ?_⟩
                      cases hgo : g d' y' 0 (mx_fr y' as) [] h with
                      | none => simp only [hgo] at H; cases H
                      | some w =>
                        obtain ⟨o1, h1⟩ := w
                        refine ⟨o1, h1, rfl, ?_⟩
                        simp only [hgo] at H
                        cases o1 with
                        | inl w => exact Or.inl ⟨w, rfl, H⟩
                        | inr k =>
                          simp only at H
                          cases hh : mx_exc y i (mx_isI ins) k with
                          | none => simp only [hh] at H; cases H
                          | some jq =>
                            cases jq with
                            | none =>
                              simp only [hh, Option.some.injEq, Prod.mk.injEq] at H
                              exact Or.inr (Or.inr ⟨k, rfl, hh, H.1.symm, H.2.symm⟩)
                            | some jq => simp only [hh] at H; exact Or.inr (Or.inl ⟨k, jq.1, jq.2, rfl, hh, H⟩)
                    · simp only [if_neg hP] at H; cases H
def mx_le (h h' : mxH) : Prop := mx_cs h ≤ mx_cs h' ∧ mx_n h ≤ mx_n h'
theorem mx_le_refl (h : mxH) : mx_le h h := ⟨Nat.le_refl _, Nat.le_refl _⟩
theorem mx_le_mk (h : mxH) (n : Nat) : mx_le h (mx_mk h n) := ⟨by rw [mx_cs_mk]; omega, by rw [mx_n_mk]; omega⟩
theorem mx_le_ex (h : mxH) : mx_le h (mx_ex h) := ⟨by show h.1 + h.2.1 ≤ h.1 + (h.2.1 + 1); omega, by show h.2.2.1 ≤ h.2.2.1 + 6; omega⟩
theorem mx_le.trans {h h1 h2 : mxH} (a : mx_le h h1) (b : mx_le h1 h2) : mx_le h h2 := ⟨Nat.le_trans a.1 b.1, Nat.le_trans a.2 b.2⟩
theorem mx_B_le {ins : Instr} {r : List Nat} {st st' : List Value} {h h' : mxH} {P : Prop} (hB : mx_B ins r st h = some (st', h', P)) : mx_le h h' := by
  unfold mx_B mx_gf mx_pf mx_ia mx_is mx_ba mx_bs mx_la mx_ls mx_aa mx_as mx_al mx_na mx_nw mx_dv mx_rm mx_cp mx_oin at hB
  repeat' split at hB
  all_goals (cases hB <;> first | exact mx_le_refl _ | exact mx_le_mk _ _ | exact ⟨Nat.le_refl _, Nat.le_refl _⟩)
theorem mx_go_le : ∀ (n : Nat) {d y i : Nat} {ls : mxLs} {st : List Value} {h h' : mxH} {o : mxO}, mx_go n d y i ls st h = some (o, h') → mx_le h h' := by
  intro n
  induction n with
  | zero => intro d y i ls st h h' o H; cases H
  | succ n ih =>
    intro d y i ls st h h' o H
    rw [mx_go_s] at H
    obtain ⟨pc, ins, len, r, v, -, H⟩ := mx_F_cases H
    rcases H with ⟨ls', st', -, H⟩ | ⟨st', h1, P, hB, -, H⟩ | ⟨j, st', -, H⟩ | ⟨P, cd, st', -, -, ⟨-, H⟩ | ⟨-, H⟩⟩ | ⟨v0, P, -, -, -, rfl⟩ | ⟨k, -, -, -, -, rfl⟩ | ⟨y', as, rest, P, d', -, -, -, -, o1, h1, H1, ⟨w, -, H⟩ | ⟨k, j, q, -, -, H⟩ | ⟨k, -, -, -, rfl⟩⟩
    · exact ih H
    · exact (mx_B_le hB).trans (ih H)
    · exact ih H
    · exact ih H
    · exact ih H
    · exact mx_le_refl _
    · exact mx_le_ex _
    · exact (ih H1).trans (ih H)
    · exact (ih H1).trans (ih H)
    · exact ih H1
/-! what a method is worth -/
noncomputable def mx_wd (y : Nat) : List Cond := [if mxHh y = [] then Cond.code (mxN y) (mxB y) (mxL y) (mxR y) else Cond.codeWith (mxN y) (mxB y) (mxL y) (mxR y) (mxHh y)]
def mx_rmm (d : Nat) (h h' : mxH) : Room := { frames := d + 8, locals := 64 * d + 128, cells := mx_cs h' - mx_cs h, slots := mx_n h' - mx_n h }
def mx_Pc (G : mxGl) (as : List Value) (h : mxH) : Array Value → State → Prop := fun a s => a = (as.map (mx_rv G)).toArray ∧ mx_K G s ∧ mx_ST G s s.heap ∧ mx_Rep G h s.heap
def mx_Qc (G : mxGl) (o : mxO) (h' : mxH) : Array Value → State → Outcome → State → Prop := fun _ st oc t => (∃ v, o = .inl v ∧ oc = .returned (v.map (mx_rv G))) ∧ mx_Rep G h' t.heap ∧ va_F (g_F G) st t
def mx_XC (G : mxGl) (o : mxO) (h' : mxH) : String → State → State → Prop := fun E st t => ∃ k, o = .inr k ∧ k < 5 ∧ E = mxXn.getD k "" ∧ mx_Rep G h' t.heap ∧ va_F (g_F G) st t
theorem mx_Pc_blind (G : mxGl) (as : List Value) (h : mxH) : FrameBlind (mx_Pc G as h) := by
  intro a U g mk hp
  obtain ⟨h1, h2, h3, h4⟩ := hp
  exact ⟨h1, mx_K.warm (State.WarmedH.refl U) h2, mx_ST.moved (State.WarmedH.refl U).alike h3, h4⟩
section SND10
variable {G : mxGl} {p : Program} {l : Launch} {e : Env} {R : Room} {s : State} {m : MethodId} {args : Array Value} {below : List Frame} {meth : Method} {c : Code} {y : Nat} {h0 : mxH} {Q : State → Prop}
theorem mx_b01 {x : Int32} (h : x = 0 ∨ x = 1) : narrow .boolean (.int x) = .int x := by
  rcases h with rfl | rfl
  · exact narrow_b0
  · exact narrow_b1
set_option maxHeartbeats 4000000 in
theorem mx_sret (C : mx_Cx G p l s m meth c y) {i pc len : Nat} {ins : Instr} {r : List Nat} {v : Int32} {ls : mxLs} {st : List Value} {h : mxH} {v0 : Option Value} {P : Prop} {XC : String → State → State → Prop} (he : (mxC y)[i]? = some (pc, ins, len, r, v)) (hr : mx_ret y ins st = some (v0, P)) (hP : P) :
    mx_WW G p l e R s m args below meth c y h0 (vx_MQ below (mx_Qc G (.inl v0) h) XC args s (mx_cs h - mx_cs h0) (mx_n h - mx_n h0) (g_F G)) i ls st h := by
  obtain ⟨hx, hb, hml, hown, hK, hST, hlocks, hret, hname, hG, hl, htab, hok, hy⟩ := C
  obtain ⟨hd, hpc, hn, ho⟩ := mx_ent hok he
  intro H locs la hR hS hL
  rw [hpc]
  unfold mx_ret at hr
  split at hr
  · split at hr
    · rename_i x
      simp only [Option.some.injEq, Prod.mk.injEq] at hr
      obtain ⟨rfl, rfl⟩ := hr
      have ho2 : len = 1 ∧ (mxR y = some .int ∨ mxR y = some .boolean ∨ mxR y = some .char ∨ mxR y = some .byte) := by
        have h9 : (decide (len = 1) && decide (mxR y = some .int ∨ mxR y = some .boolean ∨ mxR y = some .char ∨ mxR y = some .byte)) = true := ho
        rw [Bool.and_eq_true, decide_eq_true_eq, decide_eq_true_eq] at h9
        exact h9
      obtain ⟨rfl, ho2⟩ := ho2
      have hq : ∀ t : State, t.heap = H → s.WarmedH t.vm → mx_Qc G (.inl (some (.int x))) h args s (.returned (some (.int x))) t := fun t ht _ => ⟨⟨_, rfl, rfl⟩, by rw [ht]; exact hR, hS.F ht⟩
      rcases ho2 with h2 | h2 | h2 | h2
      · exact vx_ret (W.iret hx hb (hret.trans h2) hq hS.2.2 hd hlocks)
      · rw [h2] at hP
        exact vx_ret (W.zret hx hb (hret.trans h2) (mx_b01 hP) hq hS.2.2 hd hlocks)
      · rw [h2] at hP
        exact vx_ret (W.zret hx hb (hret.trans h2) hP hq hS.2.2 hd hlocks)
      · rw [h2] at hP
        exact vx_ret (W.zret hx hb (hret.trans h2) hP hq hS.2.2 hd hlocks)
    · cases hr
  · split at hr
    · rename_i x
      simp only [Option.some.injEq, Prod.mk.injEq] at hr
      obtain ⟨rfl, rfl⟩ := hr
      have ho2 : len = 1 ∧ mxR y = some (.object "StoneBacks$Word") := by
        have h9 : (decide (len = 1) && decide (mxR y = some (.object "StoneBacks$Word"))) = true := ho
        rw [Bool.and_eq_true, decide_eq_true_eq, decide_eq_true_eq] at h9
        exact h9
      obtain ⟨rfl, h2⟩ := ho2
      have hq : ∀ t : State, t.heap = H → s.WarmedH t.vm → mx_Qc G (.inl (some (.ref x))) h args s (.returned (some (mx_rc G x))) t := fun t ht _ => ⟨⟨_, rfl, rfl⟩, by rw [ht]; exact hR, hS.F ht⟩
      exact vx_ret (W.aret hx hb (hret.trans h2) (Or.inl ⟨_, rfl⟩) (mx_rc_kind G hG x) hq hS.2.2 hd hlocks)
    · cases hr
  · split at hr
    · simp only [Option.some.injEq, Prod.mk.injEq] at hr
      obtain ⟨rfl, rfl⟩ := hr
      have ho2 : len = 1 ∧ mxR y = none := by
        have h9 : (decide (len = 1) && decide (mxR y = none)) = true := ho
        rw [Bool.and_eq_true, decide_eq_true_eq, decide_eq_true_eq] at h9
        exact h9
      obtain ⟨rfl, h2⟩ := ho2
      have hq : ∀ t : State, t.heap = H → s.WarmedH t.vm → mx_Qc G (.inl none) h args s (.returned none) t := fun t ht _ => ⟨⟨_, rfl, rfl⟩, by rw [ht]; exact hR, hS.F ht⟩
      exact vx_ret (W.vret hx hb (hret.trans h2) hq hS.2.2 hd hlocks)
    · cases hr
  · cases hr
end SND10
