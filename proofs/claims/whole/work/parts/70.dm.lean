/-! DEPTH, and what no method but a constructor changes -/
theorem mx_dm : ∀ (n d d' : Nat), d ≤ d' → ∀ (y i : Nat) (ls : mxLs) (st : List Value) (h : mxH) (r : mxO × mxH), mx_go n d y i ls st h = some r → mx_go n d' y i ls st h = some r := by
  intro n
  induction n with
  | zero => intro d d' _ y i ls st h r H; cases H
  | succ n ih =>
    intro d d' hd y i ls st h r H
    rw [mx_go_s] at H ⊢
    unfold mx_F at H ⊢
    cases hc : (mxC y)[i]? with
    | none => simp only [hc] at H; cases H
    | some e =>
      obtain ⟨pc, ins, len, r0, v⟩ := e
      simp only [hc] at H ⊢
      cases hA : mx_A ins r0 v ls st with
      | some q => simp only [hA] at H ⊢; exact ih _ _ hd _ _ _ _ _ _ H
      | none =>
        simp only [hA] at H ⊢
        cases hB : mx_B ins r0 st h with
        | some q =>
          obtain ⟨st', h', P⟩ := q
          simp only [hB] at H ⊢
          by_cases hP : P
          · simp only [if_pos hP] at H ⊢; exact ih _ _ hd _ _ _ _ _ _ H
          · simp only [if_neg hP] at H; cases H
        | none =>
          simp only [hB] at H ⊢
          cases hJ : mx_J ins r0 v st with
          | some q => simp only [hJ] at H ⊢; exact ih _ _ hd _ _ _ _ _ _ H
          | none =>
            simp only [hJ] at H ⊢
            cases hb : mx_br ins st with
            | some q =>
              obtain ⟨P, c, st'⟩ := q
              simp only [hb] at H ⊢
              by_cases hP0 : P
              · simp only [if_pos hP0] at H ⊢
                by_cases hP : c
                · simp only [if_pos hP] at H ⊢; exact ih _ _ hd _ _ _ _ _ _ H
                · simp only [if_neg hP] at H ⊢; exact ih _ _ hd _ _ _ _ _ _ H
              · simp only [if_neg hP0] at H; cases H
            | none =>
              simp only [hb] at H ⊢
              cases hr : mx_ret y ins st with
              | some o => simp only [hr] at H ⊢; exact H
              | none =>
                simp only [hr] at H ⊢
                cases ht : mx_thr ins r0 with
                | some k => simp only [ht] at H ⊢; exact H
                | none =>
                  simp only [ht] at H ⊢
                  cases hl : mx_cal ins r0 st h with
                  | none => simp only [hl] at H; cases H
                  | some q =>
                    obtain ⟨y', as, rest, P⟩ := q
                    simp only [hl] at H ⊢
                    cases d with
                    | zero => cases H
                    | succ d1 =>
                      cases d' with
                      | zero => omega
                      | succ d2 =>
                        simp only at H ⊢
                        by_cases hP : P ∧ (rest.map mx_cat).sum ≤ 8
                        · simp only [if_pos hP] at H ⊢
                          cases hgo : mx_go n d1 y' 0 (mx_fr y' as) [] h with
                          | none => simp only [hgo] at H; cases H
                          | some w =>
                            obtain ⟨o, h'⟩ := w
                            have hgo' := ih d1 d2 (by omega) _ _ _ _ _ _ hgo
                            simp only [hgo] at H
                            simp only [hgo']
                            cases o with
                            | inl o => exact ih _ _ hd _ _ _ _ _ _ H
                            | inr k =>
                              simp only at H ⊢
                              cases hh : mx_exc y i (mx_isI ins) k with
                              | none => simp only [hh] at H; cases H
                              | some jq =>
                                cases jq with
                                | none => simp only [hh] at H ⊢; exact H
                                | some jq => simp only [hh] at H ⊢; exact ih _ _ hd _ _ _ _ _ _ H
                        · simp only [if_neg hP] at H; cases H
theorem wp_dm {d d' y i : Nat} {ls : mxLs} {st : List Value} {h : mxH} {Q : mxO → mxH → Prop} (hd : d ≤ d') (k : mx_wp d y i ls st h Q) : mx_wp d' y i ls st h Q := by
  obtain ⟨n, o, h', e, q⟩ := k
  exact ⟨n, o, h', mx_dm n d d' hd _ _ _ _ _ _ e, q⟩
def mxCT : List Nat := [0, 6, 19, 29, 42, 53, 65, 84, 102, 131, 189]
/-- an instruction that leaves the final references -/
def gOk (e : mxE) : Bool := match e.2.1 with
  | .putfield _ => (match e.2.2.2.1 with
    | [0, _, _] => true
    | [6, _, _] => true
    | [1, ci, k] => mxFin.all (fun q => !(Nat.beq q.1 ci && Nat.beq q.2.1 k))
    | _ => false)
  | .aastore => (match e.2.2.2.1 with
    | [0] => true
    | _ => false)
  | .iastore => (match e.2.2.2.1 with
    | [0] => true
    | _ => false)
  | .invokevirtual _ => (match e.2.2.2.1 with
    | [13, y] => !mxCT.contains y && Nat.blt y 346
    | [14, y] => !mxCT.contains y && Nat.blt y 346
    | _ => true)
  | .invokestatic _ => (match e.2.2.2.1 with
    | [13, y] => !mxCT.contains y && Nat.blt y 346
    | _ => true)
  | .invokespecial _ => (match e.2.2.2.1 with
    | [13, y] => !mxCT.contains y && Nat.blt y 346
    | _ => true)
  | _ => true
def nc (y : Nat) : Bool := !mxCT.contains y && Nat.blt y 346
theorem gOk_all : ∀ y : Fin 346, nc y.val = true → (mxC y.val).all gOk = true := by decide +kernel
