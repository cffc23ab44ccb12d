/-! RULES of the small machine: from what it does step by step to 'mx_wp' -/
theorem mx_go_s (n : Nat) : mx_go (n + 1) = mx_F (mx_go n) := rfl
theorem mx_F_mono {g g' : Nat → Nat → Nat → mxLs → List Value → mxH → Option (mxO × mxH)} (hg : ∀ d y i ls st h r, g d y i ls st h = some r → g' d y i ls st h = some r) {d y i : Nat} {ls : mxLs} {st : List Value} {h : mxH} {r : mxO × mxH} (H : mx_F g d y i ls st h = some r) : mx_F g' d y i ls st h = some r := by
  unfold mx_F at H ⊢
  cases hc : (mxC y)[i]? with
  | none => simp only [hc] at H; cases H
  | some e =>
    obtain ⟨pc, ins, len, r0, v⟩ := e
    simp only [hc] at H ⊢
    cases hA : mx_A ins r0 v ls st with
    | some q => simp only [hA] at H ⊢; exact hg _ _ _ _ _ _ _ H
    | none =>
      simp only [hA] at H ⊢
      cases hB : mx_B ins r0 st h with
      | some q =>
        obtain ⟨st', h', P⟩ := q
        simp only [hB] at H ⊢
        by_cases hP : P
        · simp only [if_pos hP] at H ⊢; exact hg _ _ _ _ _ _ _ H
        · simp only [if_neg hP] at H; cases H
      | none =>
        simp only [hB] at H ⊢
        cases hJ : mx_J ins r0 v st with
        | some q => simp only [hJ] at H ⊢; exact hg _ _ _ _ _ _ _ H
        | none =>
          simp only [hJ] at H ⊢
          cases hb : mx_br ins st with
          | some q =>
            obtain ⟨P, c, st'⟩ := q
            simp only [hb] at H ⊢
            by_cases hP0 : P
            · simp only [if_pos hP0] at H ⊢
              by_cases hP : c
              · simp only [if_pos hP] at H ⊢; exact hg _ _ _ _ _ _ _ H
              · simp only [if_neg hP] at H ⊢; exact hg _ _ _ _ _ _ _ H
            · simp only [if_neg hP0] at H; cases H
          | none =>
            simp only [hb] at H ⊢
            cases hr : mx_ret y ins st with
            | some o => simp only [hr] at H ⊢; exact H
            | none =>
              simp only [hr] at H ⊢
              cases ht : mx_thr ins r0 with
              | some k => simp only [ht] at H ⊢; exact H
              | none =>
                simp only [ht] at H ⊢
                cases hl : mx_cal ins r0 st h with
                | none => simp only [hl] at H; cases H
                | some q =>
                  obtain ⟨y', as, rest, P⟩ := q
                  simp only [hl] at H ⊢
                  cases d with
                  | zero => cases H
                  | succ d' =>
                    simp only at H ⊢
                    by_cases hP : P ∧ (rest.map mx_cat).sum ≤ 8
                    · simp only [if_pos hP] at H ⊢
                      cases hgo : g d' y' 0 (mx_fr y' as) [] h with
                      | none => simp only [hgo] at H; cases H
                      | some w =>
                        obtain ⟨o, h'⟩ := w
                        have hgo' := hg _ _ _ _ _ _ _ hgo
                        simp only [hgo] at H
                        simp only [hgo']
                        cases o with
                        | inl o => exact hg _ _ _ _ _ _ _ H
                        | inr k =>
                          simp only at H ⊢
                          cases hh : mx_exc y i (mx_isI ins) k with
                          | none => simp only [hh] at H; cases H
                          | some jq =>
                            cases jq with
                            | none => simp only [hh] at H ⊢; exact H
                            | some jq => simp only [hh] at H ⊢; exact hg _ _ _ _ _ _ _ H
                    · simp only [if_neg hP] at H; cases H
theorem mx_mono1 : ∀ (n d y i : Nat) (ls : mxLs) (st : List Value) (h : mxH) (r : mxO × mxH), mx_go n d y i ls st h = some r → mx_go (n + 1) d y i ls st h = some r := by
  intro n
  induction n with
  | zero => intro d y i ls st h r H; cases H
  | succ n ih => intro d y i ls st h r H; rw [mx_go_s] at H ⊢; exact mx_F_mono ih H
theorem mx_mono {n m : Nat} (hnm : n ≤ m) {d y i : Nat} {ls : mxLs} {st : List Value} {h : mxH} {r : mxO × mxH} (H : mx_go n d y i ls st h = some r) : mx_go m d y i ls st h = some r := by
  induction hnm with
  | refl => exact H
  | step _ ih => exact mx_mono1 _ _ _ _ _ _ _ _ ih
theorem mx_wp.mono {d y i : Nat} {ls : mxLs} {st : List Value} {h : mxH} {Q Q' : mxO → mxH → Prop} (hq : ∀ o h', Q o h' → Q' o h') (k : mx_wp d y i ls st h Q) : mx_wp d y i ls st h Q' := by
  obtain ⟨n, o, h', e, q⟩ := k
  exact ⟨n, o, h', e, hq _ _ q⟩
section WP
variable {d y i : Nat} {ls : mxLs} {st : List Value} {h : mxH} {Q : mxO → mxH → Prop} {L : List mxE}
/-- what stands at a place, as the small machine takes it -/
def mx_stp (e : mxE) (ls : mxLs) (st : List Value) (h : mxH) : Option (mxLs × List Value × mxH × Option Prop) := match mx_A e.2.1 e.2.2.2.1 e.2.2.2.2 ls st with
  | some (ls', st') => some (ls', st', h, none)
  | none => match mx_B e.2.1 e.2.2.2.1 st h with
    | some (st', h', P) => some (ls, st', h', some P)
    | none => none
def mx_and (P : Option Prop) (R : Prop) : Prop := match P with
  | none => R
  | some P => P ∧ R
/-- so many instructions of a row of code -/
def mx_steps : Nat → List mxE → Nat → mxLs → List Value → mxH → Option (Nat × mxLs × List Value × mxH × Prop)
  | 0, _, i, ls, st, h => some (i, ls, st, h, True)
  | _ + 1, [], _, _, _, _ => none
  | n + 1, e :: t, i, ls, st, h => match mx_stp e ls st h with
    | none => none
    | some (ls', st', h', P) => match mx_steps n t (i + 1) ls' st' h' with
      | none => none
      | some (i', ls'', st'', h'', R) => some (i', ls'', st'', h'', mx_and P R)
theorem wp_stp {e : mxE} {ls' : mxLs} {st' : List Value} {h' : mxH} {P : Option Prop} {R : Prop} (hc : (mxC y)[i]? = some e) (hs : mx_stp e ls st h = some (ls', st', h', P)) (hP : mx_and P R) (k : R → mx_wp d y (i + 1) ls' st' h' Q) : mx_wp d y i ls st h Q := by
  obtain ⟨pc, ins, len, r0, v⟩ := e
  unfold mx_stp at hs
  simp only at hs
  cases hA : mx_A ins r0 v ls st with
  | some q =>
    simp only [hA] at hs
    obtain ⟨a, b⟩ := q
    simp only [Option.some.injEq, Prod.mk.injEq] at hs
    obtain ⟨rfl, rfl, rfl, rfl⟩ := hs
    obtain ⟨n, o, h9, e9, q9⟩ := k hP
    exact ⟨n + 1, o, h9, by rw [mx_go_s]; unfold mx_F; simp only [hc, hA]; exact e9, q9⟩
  | none =>
    simp only [hA] at hs
    cases hB : mx_B ins r0 st h with
    | none => simp only [hB] at hs; cases hs
    | some q =>
      simp only [hB] at hs
      obtain ⟨a, b, P0⟩ := q
      simp only [Option.some.injEq, Prod.mk.injEq] at hs
      obtain ⟨rfl, rfl, rfl, rfl⟩ := hs
      obtain ⟨n, o, h9, e9, q9⟩ := k hP.2
      exact ⟨n + 1, o, h9, by rw [mx_go_s]; unfold mx_F; simp only [hc, hA, hB, if_pos hP.1]; exact e9, q9⟩
theorem wp_stepsL : ∀ (k : Nat) (S : List mxE) (i : Nat) (ls : mxLs) (st : List Value) (h : mxH) {i' : Nat} {ls' : mxLs} {st' : List Value} {h' : mxH} {P : Prop}, (mxC y).drop i = S → mx_steps k S i ls st h = some (i', ls', st', h', P) → P → mx_wp d y i' ls' st' h' Q → mx_wp d y i ls st h Q := by
  intro k
  induction k with
  | zero =>
    intro S i ls st h i' ls' st' h' P hS hs hP kk
    simp only [mx_steps, Option.some.injEq, Prod.mk.injEq] at hs
    obtain ⟨rfl, rfl, rfl, rfl, -⟩ := hs
    exact kk
  | succ k ih =>
    intro S i ls st h i' ls' st' h' P hS hs hP kk
    cases S with
    | nil => cases hs
    | cons e t =>
      simp only [mx_steps] at hs
      cases hq : mx_stp e ls st h with
      | none => simp only [hq] at hs; cases hs
      | some q =>
        obtain ⟨ls1, st1, h1, P1⟩ := q
        simp only [hq] at hs
        cases hm : mx_steps k t (i + 1) ls1 st1 h1 with
        | none => simp only [hm] at hs; cases hs
        | some w =>
          obtain ⟨i2, ls2, st2, h2, R2⟩ := w
          simp only [hm, Option.some.injEq, Prod.mk.injEq] at hs
          obtain ⟨rfl, rfl, rfl, rfl, rfl⟩ := hs
          have hc : (mxC y)[i]? = some e := by
            have := congrArg (fun l => l[0]?) hS
            simpa using this
          have ht : (mxC y).drop (i + 1) = t := by
            have := congrArg List.tail hS
            simpa using this
          exact wp_stp hc hq hP (fun r => ih t (i + 1) ls1 st1 h1 ht hm r kk)
theorem wp_steps (k : Nat) {i' : Nat} {ls' : mxLs} {st' : List Value} {h' : mxH} {P : Prop} (hL : mxC y = L) (hs : mx_steps k (L.drop i) i ls st h = some (i', ls', st', h', P)) (hP : P) (kk : mx_wp d y i' ls' st' h' Q) : mx_wp d y i ls st h Q := wp_stepsL k (L.drop i) i ls st h (by rw [hL]) hs hP kk
/-- a jump -/
def mx_cj (e : Option mxE) (ls : mxLs) (st : List Value) (h : mxH) : Option (Nat × List Value) := match e with
  | none => none
  | some e => match mx_A e.2.1 e.2.2.2.1 e.2.2.2.2 ls st with
    | some _ => none
    | none => match mx_B e.2.1 e.2.2.2.1 st h with
      | some _ => none
      | none => mx_J e.2.1 e.2.2.2.1 e.2.2.2.2 st
theorem wp_J {j : Nat} {st' : List Value} (hL : mxC y = L) (hs : mx_cj (L[i]?) ls st h = some (j, st')) (kk : mx_wp d y j ls st' h Q) : mx_wp d y i ls st h Q := by
  rw [← hL] at hs
  cases hc : (mxC y)[i]? with
  | none => rw [hc] at hs; cases hs
  | some e =>
    obtain ⟨pc, ins, len, r0, v⟩ := e
    rw [hc] at hs
    unfold mx_cj at hs
    simp only at hs
    cases hA : mx_A ins r0 v ls st with
    | some q => simp only [hA] at hs; cases hs
    | none =>
      simp only [hA] at hs
      cases hB : mx_B ins r0 st h with
      | some q => simp only [hB] at hs; cases hs
      | none =>
        simp only [hB] at hs
        obtain ⟨n, o, h9, e9, q9⟩ := kk
        exact ⟨n + 1, o, h9, by rw [mx_go_s]; unfold mx_F; simp only [hc, hA, hB, hs]; exact e9, q9⟩
/-- a branch -/
def mx_cb (e : Option mxE) (ls : mxLs) (st : List Value) (h : mxH) : Option (Prop × Prop × Nat × List Value) := match e with
  | none => none
  | some e => match mx_A e.2.1 e.2.2.2.1 e.2.2.2.2 ls st with
    | some _ => none
    | none => match mx_B e.2.1 e.2.2.2.1 st h with
      | some _ => none
      | none => match mx_J e.2.1 e.2.2.2.1 e.2.2.2.2 st with
        | some _ => none
        | none => match mx_br e.2.1 st with
          | none => none
          | some (P, c, s) => some (P, c, e.2.2.2.1.headD 0, s)
theorem wp_br {P c : Prop} {t : Nat} {st' : List Value} (hL : mxC y = L) (hs : mx_cb (L[i]?) ls st h = some (P, c, t, st')) (hP0 : P) (kt : c → mx_wp d y t ls st' h Q) (kf : ¬ c → mx_wp d y (i + 1) ls st' h Q) : mx_wp d y i ls st h Q := by
  rw [← hL] at hs
  cases hc : (mxC y)[i]? with
  | none => rw [hc] at hs; cases hs
  | some e =>
    obtain ⟨pc, ins, len, r0, v⟩ := e
    rw [hc] at hs
    unfold mx_cb at hs
    simp only at hs
    cases hA : mx_A ins r0 v ls st with
    | some q => simp only [hA] at hs; cases hs
    | none =>
      simp only [hA] at hs
      cases hB : mx_B ins r0 st h with
      | some q => simp only [hB] at hs; cases hs
      | none =>
        simp only [hB] at hs
        cases hJ : mx_J ins r0 v st with
        | some q => simp only [hJ] at hs; cases hs
        | none =>
          simp only [hJ] at hs
          cases hb : mx_br ins st with
          | none => simp only [hb] at hs; cases hs
          | some q =>
            obtain ⟨P0, c0, s0⟩ := q
            simp only [hb, Option.some.injEq, Prod.mk.injEq] at hs
            obtain ⟨rfl, rfl, rfl, rfl⟩ := hs
            by_cases hP : c0
            · obtain ⟨n, o, h9, e9, q9⟩ := kt hP
              exact ⟨n + 1, o, h9, by rw [mx_go_s]; unfold mx_F; simp only [hc, hA, hB, hJ, hb, if_pos hP0, if_pos hP]; exact e9, q9⟩
            · obtain ⟨n, o, h9, e9, q9⟩ := kf hP
              exact ⟨n + 1, o, h9, by rw [mx_go_s]; unfold mx_F; simp only [hc, hA, hB, hJ, hb, if_pos hP0, if_neg hP]; exact e9, q9⟩
/-- an end: an answer, or an exception (all cells being made) -/
def mx_ce (y : Nat) (e : Option mxE) (ls : mxLs) (st : List Value) (h : mxH) : Option (mxO × mxH × Prop) := match e with
  | none => none
  | some e => match mx_A e.2.1 e.2.2.2.1 e.2.2.2.2 ls st with
    | some _ => none
    | none => match mx_B e.2.1 e.2.2.2.1 st h with
      | some _ => none
      | none => match mx_J e.2.1 e.2.2.2.1 e.2.2.2.2 st with
        | some _ => none
        | none => match mx_br e.2.1 st with
          | some _ => none
          | none => match mx_ret y e.2.1 st with
            | some (o, P) => some (.inl o, h, P)
            | none => match mx_thr e.2.1 e.2.2.2.1 with
              | some k => some (.inr k, mx_ex h, mx_c h = 292 ∧ (st.map mx_cat).sum ≤ 8)
              | none => none
theorem wp_end {o : mxO} {h' : mxH} {P : Prop} (hL : mxC y = L) (hs : mx_ce y (L[i]?) ls st h = some (o, h', P)) (hP : P) (q : Q o h') : mx_wp d y i ls st h Q := by
  rw [← hL] at hs
  refine ⟨1, o, h', ?_, q⟩
  rw [mx_go_s]
  unfold mx_F
  cases hc : (mxC y)[i]? with
  | none => rw [hc] at hs; cases hs
  | some e =>
    obtain ⟨pc, ins, len, r0, v⟩ := e
    rw [hc] at hs
    unfold mx_ce at hs
    simp only at hs ⊢
    cases hA : mx_A ins r0 v ls st with
    | some q => simp only [hA] at hs; cases hs
    | none =>
      simp only [hA] at hs ⊢
      cases hB : mx_B ins r0 st h with
      | some q => simp only [hB] at hs; cases hs
      | none =>
        simp only [hB] at hs ⊢
        cases hJ : mx_J ins r0 v st with
        | some q => simp only [hJ] at hs; cases hs
        | none =>
          simp only [hJ] at hs ⊢
          cases hb : mx_br ins st with
          | some q => simp only [hb] at hs; cases hs
          | none =>
            simp only [hb] at hs ⊢
            cases hr : mx_ret y ins st with
            | some o =>
              obtain ⟨o1, P1⟩ := o
              simp only [hr, Option.some.injEq, Prod.mk.injEq] at hs ⊢
              obtain ⟨rfl, rfl, rfl⟩ := hs
              rw [if_pos hP]
            | none =>
              simp only [hr] at hs ⊢
              cases ht : mx_thr ins r0 with
              | some k =>
                simp only [ht, Option.some.injEq, Prod.mk.injEq] at hs ⊢
                obtain ⟨rfl, rfl, rfl⟩ := hs
                rw [if_pos hP]
              | none => simp only [ht] at hs; cases hs
/-- a call -/
def mx_cc (y : Nat) (e : Option mxE) (ls : mxLs) (st : List Value) (h : mxH) : Option (Bool × Nat × List Value × List Value × Prop) := match e with
  | none => none
  | some e => match mx_A e.2.1 e.2.2.2.1 e.2.2.2.2 ls st with
    | some _ => none
    | none => match mx_B e.2.1 e.2.2.2.1 st h with
      | some _ => none
      | none => match mx_J e.2.1 e.2.2.2.1 e.2.2.2.2 st with
        | some _ => none
        | none => match mx_br e.2.1 st with
          | some _ => none
          | none => match mx_ret y e.2.1 st with
            | some _ => none
            | none => match mx_thr e.2.1 e.2.2.2.1 with
              | some _ => none
              | none => match mx_cal e.2.1 e.2.2.2.1 st h with
                | none => none
                | some q => some (mx_isI e.2.1, q)
/-- what a caller needs of what came back -/
def mx_aft (b : Bool) (d y i : Nat) (ls : mxLs) (rest : List Value) (Q : mxO → mxH → Prop) : mxO → mxH → Prop := fun o h1 => match o with
  | .inl v => mx_wp d y (i + 1) ls (v.toList ++ rest) h1 Q
  | .inr k => match mx_exc y i b k with
    | some (some (j, q)) => mx_wp d y j (ls.set q none) [] h1 Q
    | some none => Q (.inr k) h1
    | none => False
theorem wp_call {b : Bool} {y' : Nat} {as rest : List Value} {P : Prop} (hL : mxC y = L) (hs : mx_cc y (L[i]?) ls st h = some (b, y', as, rest, P)) (hP : P) (hr8 : (rest.map mx_cat).sum ≤ 8) (kk : mx_wp d y' 0 (mx_fr y' as) [] h (mx_aft b (d + 1) y i ls rest Q)) : mx_wp (d + 1) y i ls st h Q := by
  rw [← hL] at hs
  cases hc : (mxC y)[i]? with
  | none => rw [hc] at hs; cases hs
  | some e =>
    obtain ⟨pc, ins, len, r0, v⟩ := e
    rw [hc] at hs
    unfold mx_cc at hs
    simp only at hs
    cases hA : mx_A ins r0 v ls st with
    | some q => simp only [hA] at hs; cases hs
    | none =>
      simp only [hA] at hs
      cases hB : mx_B ins r0 st h with
      | some q => simp only [hB] at hs; cases hs
      | none =>
        simp only [hB] at hs
        cases hJ : mx_J ins r0 v st with
        | some q => simp only [hJ] at hs; cases hs
        | none =>
          simp only [hJ] at hs
          cases hb : mx_br ins st with
          | some q => simp only [hb] at hs; cases hs
          | none =>
            simp only [hb] at hs
            cases hr : mx_ret y ins st with
            | some o => simp only [hr] at hs; cases hs
            | none =>
              simp only [hr] at hs
              cases ht : mx_thr ins r0 with
              | some k => simp only [ht] at hs; cases hs
              | none =>
                simp only [ht] at hs
                cases hl : mx_cal ins r0 st h with
                | none => simp only [hl] at hs; cases hs
                | some ql =>
                simp only [hl, Option.some.injEq, Prod.mk.injEq] at hs
                obtain ⟨rfl, rfl⟩ := hs
                obtain ⟨n, o, h1, e1, q1⟩ := kk
                cases o with
                | inl v9 =>
                  obtain ⟨m, o2, h2, e2, q2⟩ := q1
                  refine ⟨max n m + 1, o2, h2, ?_, q2⟩
                  rw [mx_go_s]
                  unfold mx_F
                  simp only [hc, hA, hB, hJ, hb, hr, ht, hl, if_pos (⟨hP, hr8⟩ : P ∧ (rest.map mx_cat).sum ≤ 8), mx_mono (Nat.le_max_left n m) e1]
                  exact mx_mono (Nat.le_max_right n m) e2
                | inr k9 =>
                  unfold mx_aft at q1
                  simp only at q1
                  cases hh : mx_exc y i (mx_isI ins) k9 with
                  | none => simp only [hh] at q1
                  | some jq =>
                    cases jq with
                    | none =>
                      simp only [hh] at q1
                      refine ⟨n + 1, _, h1, ?_, q1⟩
                      rw [mx_go_s]
                      unfold mx_F
                      simp only [hc, hA, hB, hJ, hb, hr, ht, hl, if_pos (⟨hP, hr8⟩ : P ∧ (rest.map mx_cat).sum ≤ 8), e1, hh]
                    | some jq =>
                      obtain ⟨j, q0⟩ := jq
                      simp only [hh] at q1
                      obtain ⟨m, o2, h2, e2, q2⟩ := q1
                      refine ⟨max n m + 1, o2, h2, ?_, q2⟩
                      rw [mx_go_s]
                      unfold mx_F
                      simp only [hc, hA, hB, hJ, hb, hr, ht, hl, if_pos (⟨hP, hr8⟩ : P ∧ (rest.map mx_cat).sum ≤ 8), mx_mono (Nat.le_max_left n m) e1, hh]
                      exact mx_mono (Nat.le_max_right n m) e2
/-- a switch -/
theorem wp_sw {lo x : Int32} {t : Nat} {ts : List Nat} {dd : Nat} (k1 : x = lo → mx_wp d y t ls st h Q) (k2 : ¬ x = lo → mx_wp d y (mx_sw (lo + 1) ts dd x) ls st h Q) : mx_wp d y (mx_sw lo (t :: ts) dd x) ls st h Q := by
  unfold mx_sw
  by_cases e : x = lo
  · rw [if_pos e]; exact k1 e
  · rw [if_neg e]; exact k2 e
end WP
