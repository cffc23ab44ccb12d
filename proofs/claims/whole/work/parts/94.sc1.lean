/-! THE SCRIPT is never written; isThere and isLight of the reference stay 0 or 1 -/
def sc1 (h h1 : mxH) : Prop := mx_i h1 1 = mx_i h 1 ∧ mx_r h1 1 = mx_r h 1 ∧ (fc01 h → fc01 h1)
theorem sc1_rfl {h : mxH} : sc1 h h := ⟨rfl, rfl, id⟩
theorem sc1_tr {h h1 h2 : mxH} (u : sc1 h h1) (w : sc1 h1 h2) : sc1 h h2 := ⟨w.1.trans u.1, w.2.1.trans u.2.1, fun f => w.2.2 (u.2.2 f)⟩
theorem T_1 {a c : Nat} (h : (mxT a).1 = c + 1) : a ≠ 1 := fun e => by
  subst e
  have : mxT 1 = (0, 0) := rfl
  rw [this] at h
  exact absurd h (Nat.succ_ne_zero c).symm
theorem fc_i {h h1 : mxH} (e : mx_i h1 381 = mx_i h 381) (f : fc01 h) : fc01 h1 := by
  unfold fc01
  rw [e]
  exact f
theorem sc1_wi {h : mxH} {a k : Nat} {v : Int32} (ha : a ≠ 1) (hf : a = 381 → (k ≠ 15 ∧ k ≠ 16) ∨ (v = 0 ∨ v = 1)) : sc1 h (mx_wi h a k v) := ⟨wi_ne (Ne.symm ha), rfl, fun f => by
  by_cases c : a = 381
  · subst c
    unfold fc01
    rw [wi_i, wi_i]
    rcases hf rfl with ⟨n1, n2⟩ | hv
    · rw [if_neg (fun e => n1 e.2.symm), if_neg (fun e => n2 e.2.symm)]; exact f
    · refine ⟨?_, ?_⟩
      · split
        · exact hv
        · exact f.1
      · split
        · exact hv
        · exact f.2
  · exact fc_i (wi_ne (Ne.symm c)) f⟩
theorem T_381 {a c : Nat} (h : (mxT a).1 = c) (hc : c ≠ 11) : a ≠ 381 := fun e => by
  subst e
  rw [sT_381] at h
  exact hc h.symm
theorem sc1_wl {h : mxH} {a k : Nat} {v : Int64} : sc1 h (mx_wl h a k v) := ⟨rfl, rfl, fun f => fc_i rfl f⟩
theorem sc1_wrow {h : mxH} {a : Nat} {f : Nat → Int32} (ha : a ≠ 1) (h3 : a ≠ 381) : sc1 h (mx_wrow h a f) := ⟨wrow_ne (Ne.symm ha), rfl, fun g => fc_i (wrow_ne (Ne.symm h3)) g⟩
theorem sc1_wr {h : mxH} {a k q : Nat} (ha : a ≠ 1) : sc1 h (mx_wr h a k q) := ⟨rfl, by
  funext j
  show mx_up (mx_r h) a k q 1 j = _
  unfold mx_up
  rw [if_neg (fun e => ha e.1.symm)], fun f => fc_i rfl f⟩
theorem sc1_ex {h : mxH} : sc1 h (mx_ex h) := ⟨rfl, rfl, fun f => fc_i rfl f⟩
theorem sc1_mk {h : mxH} {n : Nat} : sc1 h (mx_mk h n) := by
  have e : ¬ 1 = 100 + h.1 := by omega
  refine ⟨?_, ?_, fun f => ?_⟩
  · funext j
    show mx_rw (mx_i h) (100 + h.1) (fun _ => 0) 1 j = _
    unfold mx_rw
    rw [if_neg e]
  · funext j
    show mx_rw (mx_r h) (100 + h.1) (fun _ => 0) 1 j = _
    unfold mx_rw
    rw [if_neg e]
  · have z : ∀ j, mx_i (mx_mk h n) 381 j = 0 ∨ mx_i (mx_mk h n) 381 j = mx_i h 381 j := by
      intro j
      show mx_rw (mx_i h) (100 + h.1) (fun _ => 0) 381 j = 0 ∨ mx_rw (mx_i h) (100 + h.1) (fun _ => 0) 381 j = _
      unfold mx_rw
      split
      · exact .inl rfl
      · exact .inr rfl
    unfold fc01
    refine ⟨?_, ?_⟩
    · rcases z 15 with q | q
      · exact .inl q
      · rw [q]; exact f.1
    · rcases z 16 with q | q
      · exact .inl q
      · rw [q]; exact f.2
theorem sc1_mdl {h hm : mxH} (u : mdl h hm) : sc1 h hm := ⟨by rw [u.2.2.2.1], by rw [u.2.2.2.2], fun f => fc_i (by rw [u.2.2.2.1]) f⟩
/-- no int is put into isThere, isLight but 0 and 1 -/
def pfo (r : List Nat) : Bool := match r with
  | [0, ci, k] => !(ci == 10 && (k == 15 || k == 16))
  | [20, ci, k] => !(ci == 10 && (k == 15 || k == 16))
  | _ => true
def pfi (ins : Instr) (r : List Nat) : Bool := match ins with
  | .putfield _ => pfo r
  | _ => true
theorem pf_ok {ci k a : Nat} {v : Int32} (h : (!(ci == 10 && (k == 15 || k == 16))) = true) (ht : (mxT a).1 = ci + 1) : a = 381 → (k ≠ 15 ∧ k ≠ 16) ∨ (v = 0 ∨ v = 1) := by
  rintro rfl
  rw [sT_381] at ht
  have : ci = 10 := by
    have : 11 = ci + 1 := ht
    omega
  subst this
  refine .inl ⟨?_, ?_⟩
  · rintro rfl; exact absurd h (by decide)
  · rintro rfl; exact absurd h (by decide)
theorem mxB_lo {ins : Instr} {r : List Nat} {st st' : List Value} {h h' : mxH} {P : Prop} (hpf : pfi ins r = true) (H : mx_B ins r st h = some (st', h', P)) (hP : P) : sc1 h h' := by
  unfold mx_B at H
  split at H
  · unfold mx_gf at H
    repeat' split at H
    all_goals first
      | (cases H; done)
      | (simp only [Option.some.injEq, Prod.mk.injEq] at H; obtain ⟨-, rfl, -⟩ := H; exact sc1_rfl)
  · unfold mx_pf at H
    repeat' split at H
    all_goals first
      | (cases H; done)
      | (simp only [Option.some.injEq, Prod.mk.injEq] at H; obtain ⟨-, rfl, rfl⟩ := H; first | exact sc1_wi (T_1 hP.1) (pf_ok hpf hP.1) | exact sc1_wi (T_1 hP.1.1) (fun _ => .inr hP.2) | exact sc1_wr (T_1 hP.1))
  · unfold mx_ia at H
    repeat' split at H
    all_goals first
      | (cases H; done)
      | (simp only [Option.some.injEq, Prod.mk.injEq] at H; obtain ⟨-, rfl, -⟩ := H; exact sc1_rfl)
  · unfold mx_is at H
    repeat' split at H
    all_goals first
      | (cases H; done)
      | (simp only [Option.some.injEq, Prod.mk.injEq] at H; obtain ⟨-, rfl, rfl⟩ := H; exact sc1_wi (T_1 hP.1.1) (fun q => absurd q (T_381 hP.1.1 (by decide))))
  · unfold mx_ba at H
    repeat' split at H
    all_goals first
      | (cases H; done)
      | (simp only [Option.some.injEq, Prod.mk.injEq] at H; obtain ⟨-, rfl, -⟩ := H; exact sc1_rfl)
  · unfold mx_bs at H
    repeat' split at H
    all_goals first
      | (cases H; done)
      | (simp only [Option.some.injEq, Prod.mk.injEq] at H; obtain ⟨-, rfl, rfl⟩ := H; exact sc1_wi (T_1 hP.1.1) (fun q => absurd q (T_381 hP.1.1 (by decide))))
  · unfold mx_la at H
    repeat' split at H
    all_goals first
      | (cases H; done)
      | (simp only [Option.some.injEq, Prod.mk.injEq] at H; obtain ⟨-, rfl, -⟩ := H; exact sc1_rfl)
  · unfold mx_ls at H
    repeat' split at H
    all_goals first
      | (cases H; done)
      | (simp only [Option.some.injEq, Prod.mk.injEq] at H; obtain ⟨-, rfl, -⟩ := H; exact sc1_wl)
  · unfold mx_aa at H
    repeat' split at H
    all_goals first
      | (cases H; done)
      | (simp only [Option.some.injEq, Prod.mk.injEq] at H; obtain ⟨-, rfl, -⟩ := H; exact sc1_rfl)
  · unfold mx_as at H
    repeat' split at H
    all_goals first
      | (cases H; done)
      | (simp only [Option.some.injEq, Prod.mk.injEq] at H; obtain ⟨-, rfl, rfl⟩ := H; first | exact sc1_wr (T_1 hP.1.1.1) | exact sc1_wr (T_1 hP.1.1))
  · unfold mx_al at H
    repeat' split at H
    all_goals first
      | (cases H; done)
      | (simp only [Option.some.injEq, Prod.mk.injEq] at H; obtain ⟨-, rfl, -⟩ := H; exact sc1_rfl)
  · unfold mx_na at H
    repeat' split at H
    all_goals first
      | (cases H; done)
      | (simp only [Option.some.injEq, Prod.mk.injEq] at H; obtain ⟨-, rfl, rfl⟩ := H; exact sc1_mk)
  · unfold mx_na at H
    repeat' split at H
    all_goals first
      | (cases H; done)
      | (simp only [Option.some.injEq, Prod.mk.injEq] at H; obtain ⟨-, rfl, rfl⟩ := H; exact sc1_mk)
  · unfold mx_nw at H
    repeat' split at H
    all_goals first
      | (cases H; done)
      | (simp only [Option.some.injEq, Prod.mk.injEq] at H; obtain ⟨-, rfl, rfl⟩ := H; exact sc1_mk)
  · unfold mx_dv at H
    repeat' split at H
    all_goals first
      | (cases H; done)
      | (simp only [Option.some.injEq, Prod.mk.injEq] at H; obtain ⟨-, rfl, -⟩ := H; exact sc1_rfl)
  · unfold mx_rm at H
    repeat' split at H
    all_goals first
      | (cases H; done)
      | (simp only [Option.some.injEq, Prod.mk.injEq] at H; obtain ⟨-, rfl, -⟩ := H; exact sc1_rfl)
  · unfold mx_cp at H
    repeat' split at H
    all_goals first
      | (cases H; done)
      | (simp only [Option.some.injEq, Prod.mk.injEq] at H; obtain ⟨-, rfl, rfl⟩ := H; first | exact sc1_rfl | exact sc1_wrow (T_1 hP.1.1.2) (T_381 hP.1.1.2 (by decide)))
  · unfold mx_oin at H
    repeat' split at H
    all_goals first
      | (cases H; done)
      | (simp only [Option.some.injEq, Prod.mk.injEq] at H; obtain ⟨-, rfl, -⟩ := H; exact sc1_rfl)
  · cases H
theorem pf_all : mxCs.all (fun L => L.all (fun c => c.all (fun e => pfi e.2.1 e.2.2.2.1))) = true := by decide +kernel
theorem pf_at {y i : Nat} {e : mxE} (h : (mxC y)[i]? = some e) : pfi e.2.1 e.2.2.2.1 = true := by
  have a := pf_all
  rw [List.all_eq_true] at a
  have hm : e ∈ mxC y := List.mem_of_getElem? h
  unfold mxC at hm
  rw [List.getD_eq_getElem?_getD, List.getD_eq_getElem?_getD] at hm
  cases h1 : mxCs[y / 20]? with
  | none => rw [h1] at hm; simp at hm
  | some L =>
    rw [h1] at hm
    have aL := a L (List.mem_of_getElem? h1)
    rw [List.all_eq_true] at aL
    cases h2 : L[y % 20]? with
    | none => simp [h2] at hm
    | some c =>
      have ac := aL c (List.mem_of_getElem? h2)
      rw [List.all_eq_true] at ac
      have : e ∈ c := by simpa [h2] using hm
      exact ac e this
theorem sc1_pres : ∀ (n d y i : Nat) (ls : mxLs) (st : List Value) (h : mxH) (o : mxO) (h' : mxH), mx_go n d y i ls st h = some (o, h') → sc1 h h' := by
  intro n
  induction n with
  | zero => intro d y i ls st h o h' H; cases H
  | succ n ih =>
    intro d y i ls st h o h' H
    rw [mx_go_s] at H
    unfold mx_F at H
    cases hc : (mxC y)[i]? with
    | none => simp only [hc] at H; cases H
    | some e =>
      obtain ⟨pc, ins, len, r0, v⟩ := e
      simp only [hc] at H
      cases hA : mx_A ins r0 v ls st with
      | some q => simp only [hA] at H; exact ih _ _ _ _ _ _ _ _ H
      | none =>
        simp only [hA] at H
        cases hB : mx_B ins r0 st h with
        | some q =>
          obtain ⟨st', h1, P⟩ := q
          simp only [hB] at H
          by_cases hP : P
          · simp only [if_pos hP] at H; exact sc1_tr (mxB_lo (pf_at hc) hB hP) (ih _ _ _ _ _ _ _ _ H)
          · simp only [if_neg hP] at H; cases H
        | none =>
          simp only [hB] at H
          cases hJ : mx_J ins r0 v st with
          | some q => simp only [hJ] at H; exact ih _ _ _ _ _ _ _ _ H
          | none =>
            simp only [hJ] at H
            cases hb : mx_br ins st with
            | some q =>
              obtain ⟨P, c, st'⟩ := q
              simp only [hb] at H
              by_cases hP0 : P
              · simp only [if_pos hP0] at H
                by_cases hP : c
                · simp only [if_pos hP] at H; exact ih _ _ _ _ _ _ _ _ H
                · simp only [if_neg hP] at H; exact ih _ _ _ _ _ _ _ _ H
              · simp only [if_neg hP0] at H; cases H
            | none =>
              simp only [hb] at H
              cases hr : mx_ret y ins st with
              | some o1 =>
                obtain ⟨o1, P1⟩ := o1
                simp only [hr] at H
                by_cases hP : P1
                · simp only [if_pos hP, Option.some.injEq, Prod.mk.injEq] at H; rw [← H.2]; exact sc1_rfl
                · simp only [if_neg hP] at H; cases H
              | none =>
                simp only [hr] at H
                cases ht : mx_thr ins r0 with
                | some k =>
                  simp only [ht] at H
                  by_cases hP : mx_c h = 292 ∧ (st.map mx_cat).sum ≤ 8
                  · simp only [if_pos hP, Option.some.injEq, Prod.mk.injEq] at H; rw [← H.2]; exact sc1_ex
                  · simp only [if_neg hP] at H; cases H
                | none =>
                  simp only [ht] at H
                  cases hl : mx_cal ins r0 st h with
                  | none => simp only [hl] at H; cases H
                  | some q =>
                    obtain ⟨y', as, rest, P⟩ := q
                    simp only [hl] at H
                    cases d with
                    | zero => cases H
                    | succ d1 =>
                      simp only at H
                      by_cases hP : P ∧ (rest.map mx_cat).sum ≤ 8
                      · simp only [if_pos hP] at H
                        cases hgo : mx_go n d1 y' 0 (mx_fr y' as) [] h with
                        | none => simp only [hgo] at H; cases H
                        | some w =>
                          obtain ⟨o2, h2⟩ := w
                          have G2 := ih _ _ _ _ _ _ _ _ hgo
                          simp only [hgo] at H
                          cases o2 with
                          | inl o2 => exact sc1_tr G2 (ih _ _ _ _ _ _ _ _ H)
                          | inr k =>
                            simp only at H
                            cases hh : mx_exc y i (mx_isI ins) k with
                            | none => simp only [hh] at H; cases H
                            | some jq =>
                              cases jq with
                              | none =>
                                simp only [hh, Option.some.injEq, Prod.mk.injEq] at H
                                rw [← H.2]; exact G2
                              | some jq => simp only [hh] at H; exact sc1_tr G2 (ih _ _ _ _ _ _ _ _ H)
                      · simp only [if_neg hP] at H; cases H
theorem wp_S1 {d y i : Nat} {ls : mxLs} {st : List Value} {h : mxH} {Q : mxO → mxH → Prop} (k : mx_wp d y i ls st h Q) : mx_wp d y i ls st h (fun o h1 => sc1 h h1 ∧ Q o h1) := by
  obtain ⟨n, o, h', e, q⟩ := k
  exact ⟨n, o, h', e, sc1_pres n d y i ls st h o h' e, q⟩
/-- as Op, where isThere and isLight are 0 or 1 -/
def OpF (LW : mxLW) (yc ym : Nat) (as : List Value) (code : Nat → Int32) : Prop := ∀ (h : mxH) (vn vd vr vq np ns nl : Nat), Inv LW h vn vd vr vq np ns nl → fc01 h → mx_wp 500 yc 0 (mx_fr yc (.ref 100 :: as)) [] h (fun o h1 => ∀ hm, mdl h1 hm → mx_wp 500 ym 0 (mx_fr ym (.ref 381 :: as)) [] hm (fun o2 h2 => ∃ b, o2 = .inl (some (.int b)) ∧ ansOk code o b (mx_i h2 381 0) ∧ bud h h2 ∧ ∃ vn vd vr vq np ns nl, Inv LW h2 vn vd vr vq np ns nl))
