/-! LONGS are written by the law's wrappers alone -/
def lOk (e : mxE) : Bool := match e.2.1 with
  | .lastore => false
  | .invokevirtual _ => (match e.2.2.2.1 with
    | [13, y] => !mxCT.contains y && Nat.blt y 314
    | [14, y] => !mxCT.contains y && Nat.blt y 314
    | _ => true)
  | .invokestatic _ => (match e.2.2.2.1 with
    | [13, y] => !mxCT.contains y && Nat.blt y 314
    | _ => true)
  | .invokespecial _ => (match e.2.2.2.1 with
    | [13, y] => !mxCT.contains y && Nat.blt y 314
    | _ => true)
  | _ => true
def ncl (y : Nat) : Bool := !mxCT.contains y && Nat.blt y 314
theorem lOk_all : ∀ y : Fin 314, ncl y.val = true → (mxC y.val).all lOk = true := by decide +kernel
theorem mxB_l {ins : Instr} {r : List Nat} {v : Int32} {pc len : Nat} {st st' : List Value} {h h' : mxH} {P : Prop} (ok : lOk (pc, ins, len, r, v) = true) (G : mxG h) (H : mx_B ins r st h = some (st', h', P)) (hP : P) : mx_l h' = mx_l h := by
  unfold mx_B at H
  split at H
  · unfold mx_gf at H
    repeat' split at H
    all_goals first
      | (cases H; done)
      | (simp only [Option.some.injEq, Prod.mk.injEq] at H; obtain ⟨-, rfl, -⟩ := H; exact rfl)
  · unfold mx_pf at H
    repeat' split at H
    all_goals first
      | (cases H; done)
      | (simp only [Option.some.injEq, Prod.mk.injEq] at H; obtain ⟨-, rfl, rfl⟩ := H; exact rfl)
  · unfold mx_ia at H
    repeat' split at H
    all_goals first
      | (cases H; done)
      | (simp only [Option.some.injEq, Prod.mk.injEq] at H; obtain ⟨-, rfl, -⟩ := H; exact rfl)
  · unfold mx_is at H
    repeat' split at H
    all_goals first
      | (cases H; done)
      | (simp only [Option.some.injEq, Prod.mk.injEq] at H; obtain ⟨-, rfl, -⟩ := H; exact rfl)
  · unfold mx_ba at H
    repeat' split at H
    all_goals first
      | (cases H; done)
      | (simp only [Option.some.injEq, Prod.mk.injEq] at H; obtain ⟨-, rfl, -⟩ := H; exact rfl)
  · unfold mx_bs at H
    repeat' split at H
    all_goals first
      | (cases H; done)
      | (simp only [Option.some.injEq, Prod.mk.injEq] at H; obtain ⟨-, rfl, -⟩ := H; exact rfl)
  · unfold mx_la at H
    repeat' split at H
    all_goals first
      | (cases H; done)
      | (simp only [Option.some.injEq, Prod.mk.injEq] at H; obtain ⟨-, rfl, -⟩ := H; exact rfl)
  · unfold mx_ls at H
    repeat' split at H
    all_goals first
      | (cases H; done)
      | (simp only [Option.some.injEq, Prod.mk.injEq] at H; obtain ⟨-, rfl, -⟩ := H; exact absurd ok (by simp [lOk]))
  · unfold mx_aa at H
    repeat' split at H
    all_goals first
      | (cases H; done)
      | (simp only [Option.some.injEq, Prod.mk.injEq] at H; obtain ⟨-, rfl, -⟩ := H; exact rfl)
  · unfold mx_as at H
    repeat' split at H
    all_goals first
      | (cases H; done)
      | (simp only [Option.some.injEq, Prod.mk.injEq] at H; obtain ⟨-, rfl, rfl⟩ := H; exact rfl)
  · unfold mx_al at H
    repeat' split at H
    all_goals first
      | (cases H; done)
      | (simp only [Option.some.injEq, Prod.mk.injEq] at H; obtain ⟨-, rfl, -⟩ := H; exact rfl)
  · unfold mx_na at H
    repeat' split at H
    all_goals first
      | (cases H; done)
      | (simp only [Option.some.injEq, Prod.mk.injEq] at H; obtain ⟨-, rfl, rfl⟩ := H; exact absurd hP.2.2 (by rw [G.1]; decide))
  · unfold mx_na at H
    repeat' split at H
    all_goals first
      | (cases H; done)
      | (simp only [Option.some.injEq, Prod.mk.injEq] at H; obtain ⟨-, rfl, rfl⟩ := H; exact absurd hP.2.2 (by rw [G.1]; decide))
  · unfold mx_nw at H
    repeat' split at H
    all_goals first
      | (cases H; done)
      | (simp only [Option.some.injEq, Prod.mk.injEq] at H; obtain ⟨-, rfl, rfl⟩ := H; exact absurd hP.2 (by rw [G.1]; decide))
  · unfold mx_dv at H
    repeat' split at H
    all_goals first
      | (cases H; done)
      | (simp only [Option.some.injEq, Prod.mk.injEq] at H; obtain ⟨-, rfl, -⟩ := H; exact rfl)
  · unfold mx_rm at H
    repeat' split at H
    all_goals first
      | (cases H; done)
      | (simp only [Option.some.injEq, Prod.mk.injEq] at H; obtain ⟨-, rfl, -⟩ := H; exact rfl)
  · unfold mx_cp at H
    repeat' split at H
    all_goals first
      | (cases H; done)
      | (simp only [Option.some.injEq, Prod.mk.injEq] at H; obtain ⟨-, rfl, -⟩ := H; exact rfl)
  · unfold mx_oin at H
    repeat' split at H
    all_goals first
      | (cases H; done)
      | (simp only [Option.some.injEq, Prod.mk.injEq] at H; obtain ⟨-, rfl, -⟩ := H; exact rfl)
  · cases H
theorem mx_cal_lc {ins : Instr} {r : List Nat} {v : Int32} {pc len : Nat} {st : List Value} {h : mxH} {y' : Nat} {as rest : List Value} {P : Prop} (ok : lOk (pc, ins, len, r, v) = true) (H : mx_cal ins r st h = some (y', as, rest, P)) : ncl y' = true := by
  have H0 : mx_cal0 ins r st h = some (y', as, rest, P) := by
    unfold mx_cal at H
    cases e : mx_cal0 ins r st h with
    | none => simp only [e] at H; cases H
    | some q =>
      simp only [e] at H
      split at H
      · simp only [Option.some.injEq] at H; rw [H]
      · cases H
  unfold mx_cal0 at H0
  repeat' split at H0
  all_goals first
    | (cases H0; done)
    | (simp only [Option.some.injEq, Prod.mk.injEq] at H0; obtain ⟨rfl, -⟩ := H0; exact ok)
theorem mxl_pres : ∀ (n d y i : Nat) (ls : mxLs) (st : List Value) (h : mxH) (o : mxO) (h' : mxH), ncl y = true → mxG h → mx_go n d y i ls st h = some (o, h') → mx_l h' = mx_l h := by
  intro n
  induction n with
  | zero => intro d y i ls st h o h' _ _ H; cases H
  | succ n ih =>
    intro d y i ls st h o h' hy G H
    have hy3 : y < 314 := by
      unfold ncl at hy
      simp only [Bool.and_eq_true] at hy
      exact Nat.le_of_ble_eq_true hy.2
    have hnc : nc y = true := by
      unfold ncl at hy
      simp only [Bool.and_eq_true] at hy
      unfold nc
      simp only [Bool.and_eq_true]
      exact ⟨hy.1, Nat.ble_eq_true_of_le (by omega)⟩
    have hall := lOk_all ⟨y, hy3⟩ hy
    have hallg := gOk_all ⟨y, by omega⟩ hnc
    rw [mx_go_s] at H
    unfold mx_F at H
    cases hc : (mxC y)[i]? with
    | none => simp only [hc] at H; cases H
    | some e =>
      have oke : lOk e = true := List.all_eq_true.mp hall e (List.mem_of_getElem? hc)
      have okg : gOk e = true := List.all_eq_true.mp hallg e (List.mem_of_getElem? hc)
      obtain ⟨pc, ins, len, r0, v⟩ := e
      simp only [hc] at H
      cases hA : mx_A ins r0 v ls st with
      | some q => simp only [hA] at H; exact ih _ _ _ _ _ _ _ _ hy G H
      | none =>
        simp only [hA] at H
        cases hB : mx_B ins r0 st h with
        | some q =>
          obtain ⟨st', h1, P⟩ := q
          simp only [hB] at H
          by_cases hP : P
          · simp only [if_pos hP] at H; exact (ih _ _ _ _ _ _ _ _ hy (mxB_G okg G hB hP) H).trans (mxB_l oke G hB hP)
          · simp only [if_neg hP] at H; cases H
        | none =>
          simp only [hB] at H
          cases hJ : mx_J ins r0 v st with
          | some q => simp only [hJ] at H; exact ih _ _ _ _ _ _ _ _ hy G H
          | none =>
            simp only [hJ] at H
            cases hb : mx_br ins st with
            | some q =>
              obtain ⟨P, c, st'⟩ := q
              simp only [hb] at H
              by_cases hP0 : P
              · simp only [if_pos hP0] at H
                by_cases hP : c
                · simp only [if_pos hP] at H; exact ih _ _ _ _ _ _ _ _ hy G H
                · simp only [if_neg hP] at H; exact ih _ _ _ _ _ _ _ _ hy G H
              · simp only [if_neg hP0] at H; cases H
            | none =>
              simp only [hb] at H
              cases hr : mx_ret y ins st with
              | some o1 =>
                obtain ⟨o1, P1⟩ := o1
                simp only [hr] at H
                by_cases hP : P1
                · simp only [if_pos hP, Option.some.injEq, Prod.mk.injEq] at H; rw [← H.2]
                · simp only [if_neg hP] at H; cases H
              | none =>
                simp only [hr] at H
                cases ht : mx_thr ins r0 with
                | some k =>
                  simp only [ht] at H
                  by_cases hP : mx_c h = 292 ∧ (st.map mx_cat).sum ≤ 8
                  · simp only [if_pos hP, Option.some.injEq, Prod.mk.injEq] at H; rw [← H.2]; rfl
                  · simp only [if_neg hP] at H; cases H
                | none =>
                  simp only [ht] at H
                  cases hl : mx_cal ins r0 st h with
                  | none => simp only [hl] at H; cases H
                  | some q =>
                    obtain ⟨y', as, rest, P⟩ := q
                    have hy' := mx_cal_lc oke hl
                    have hyg := mx_cal_nc okg hl
                    simp only [hl] at H
                    cases d with
                    | zero => cases H
                    | succ d1 =>
                      simp only at H
                      by_cases hP : P ∧ (rest.map mx_cat).sum ≤ 8
                      · simp only [if_pos hP] at H
                        cases hgo : mx_go n d1 y' 0 (mx_fr y' as) [] h with
                        | none => simp only [hgo] at H; cases H
                        | some w =>
                          obtain ⟨o2, h2⟩ := w
                          have G2 := ih _ _ _ _ _ _ _ _ hy' G hgo
                          have GG := mxG_pres _ _ _ _ _ _ _ _ _ hyg G hgo
                          simp only [hgo] at H
                          cases o2 with
                          | inl o2 => exact (ih _ _ _ _ _ _ _ _ hy GG H).trans G2
                          | inr k =>
                            simp only at H
                            cases hh : mx_exc y i (mx_isI ins) k with
                            | none => simp only [hh] at H; cases H
                            | some jq =>
                              cases jq with
                              | none =>
                                simp only [hh, Option.some.injEq, Prod.mk.injEq] at H
                                rw [← H.2]; exact G2
                              | some jq => simp only [hh] at H; exact (ih _ _ _ _ _ _ _ _ hy GG H).trans G2
                      · simp only [if_neg hP] at H; cases H
theorem wp_L {d y i : Nat} {ls : mxLs} {st : List Value} {h : mxH} {Q : mxO → mxH → Prop} (hy : ncl y = true) (G : mxG h) (k : mx_wp d y i ls st h Q) : mx_wp d y i ls st h (fun o h1 => mx_l h1 = mx_l h ∧ Q o h1) := by
  obtain ⟨n, o, h', e, q⟩ := k
  exact ⟨n, o, h', e, mxl_pres n d y i ls st h o h' hy G e, q⟩
