/-! SPECS by hand, 19: the text of the law, as the reference reads it -/
def smL (F : Nat → Int32) (j : Nat) : List LL → Int32 → Int32
  | [], a => a
  | L :: Ls, a => smL F j Ls (a + (if L.1 = nI j ∧ hl F L.2.2 = true then L.2.1 else 0))
def outS (F : Nat → Int32) (h : mxH) (m : Nat) (r : Sum Nat (List LL)) (x : Int32) (h1 : mxH) : Prop := match r with
  | .inl e => mx_i h1 381 12 = nI e
  | .inr Ls => x = nI (m + Ls.length) ∧ mx_i h1 381 12 = -1 ∧ ∀ j, j < 3 → mx_i h1 381 (17 + j) = smL F j Ls (mx_i h 381 (17 + j))
theorem H224 {d n : Nat} {T : Nat → Int32} {h0 : mxH} {Q : mxO → mxH → Prop} {i1 : Int32} (hi1 : ¬ i1 = 0) (h01 : fc01 h0) (hd : mx_i h0 381 13 = 0) : ∀ (j p m : Nat) (h : mxH), j + m = 12 → mxG h → frA h0 h → mx_i h 381 12 = -1 → Rd h T n p → (∀ x h1, frA h0 h1 → outS (Fh h0) h m (pLs T n j p) x h1 → Q (.inl (some (.int x))) h1) → H_224_13 (d + 32) h i1 1 (nI m) Q := by
  intro j
  induction j with
  | zero =>
    intro p m h hj G F hf R fin
    have hn := R.1
    have skn : sk T n p ≤ n := sk_le R.2.1
    refine tr_224_13 G ⟨fun c => absurd c (by decide), fun _ => ⟨fun _ => ⟨.inl ⟨T, n, p, R⟩, fun h5 u5 v8 e8 => ?_⟩, fun c => absurd hf c⟩⟩
    rw [if_neg hi1] at e8
    have e5 := u5.2.1 T n p R
    refine ⟨fun _ h64 e64 => ?_, fun c => absurd (by rw [e8]; show nI m = nI 12; rw [show m = 12 by omega]) c⟩
    have f5 : mx_i h5 381 12 = -1 := by rw [e5]; exact f_at.trans hf
    rw [W213f f5, e5, wi_at rfl rfl] at e64
    have R64 : Rd h64 T n (sk T n p) := by rw [e64]; exact Rd_wi (Rd_at R skn) (by decide)
    refine ⟨.inl ⟨T, n, _, R64⟩, fun h70 u70 => ?_⟩
    have e70 := u70.2.1 T n _ R64
    have f70 : mx_i h70 381 12 = nI (sk T n p) := by rw [e70, wi_nj (by decide), e64, wi_at rfl rfl]
    refine ⟨fun c => absurd (f70.symm.trans c) (nI_ne1 (by omega)), fun _ => ?_⟩
    have K70 : frA h h70 := by
      rw [e70, e64]
      exact frA_tr (frA_tr (frA_wi (by decide)) (frA_wi (by decide))) (frA_wi (by decide))
    refine tr_224_13 (mxK_G K70.1 G) ⟨fun _ => fin _ _ (frA_tr F K70) f70, fun c => absurd rfl c⟩
  | succ j ih =>
    intro p m h hj G F hf R fin
    have hn := R.1
    have skn : sk T n p ≤ n := sk_le R.2.1
    refine tr_224_13 G ⟨fun c => absurd c (by decide), fun _ => ⟨fun _ => ⟨.inl ⟨T, n, p, R⟩, fun h5 u5 v8 e8 => ?_⟩, fun c => absurd hf c⟩⟩
    rw [if_neg hi1] at e8
    have e5 := u5.2.1 T n p R
    refine ⟨fun c => absurd ((nI_eq (by omega) (by omega)).mp (show nI m = nI 12 from c.trans e8)) (by omega), fun _ => ⟨fun c => absurd c hi1, fun _ => ?_⟩⟩
    have f5 : mx_i h5 381 12 = -1 := by rw [e5]; exact f_at.trans hf
    have K5 : frA h h5 := by rw [e5]; exact frA_wi (by decide)
    have R5 : Rd h5 T n (sk T n p) := by rw [e5]; exact Rd_at R skn
    have F5 := frA_tr F K5
    refine ⟨⟨T, n, _, R5⟩, f5, frA_01 F5 h01, (F5.2 381 13 (by omega)).trans hd, fun h41 u41 => ?_⟩
    have o := u41.2 T n _ R5
    have pl : pLine T n (sk T n p) = pLine T n p := by
      unfold pLine pKd
      rw [wrd_sk, wrd_sk, wrd_sk, skk]
    rw [pl] at o
    have F41 := frA_tr F5 u41.1
    have G41 := mxK_G F41.1
    have G5 := mxK_G u5.1 G
    have G41 := mxK_G u41.1.1 G5
    have s5 : ∀ j, j < 3 → mx_i h5 381 (17 + j) = mx_i h 381 (17 + j) := fun j hj => by rw [e5, wi_nj (by omega)]
    unfold pLs at fin
    match hpl : pLine T n p, o with
    | .inl e, o =>
      rw [hpl] at fin
      obtain ⟨z, hz, e41⟩ := o
      have he : e ≤ n := by
        have hp := R.2.1
        unfold pLine pKd at hpl
        have tail : ∀ (v : Int32) (q : Nat), q ≤ n → (if sk T n q < endN T n q ∧ endN T n q ≤ sk T n q + 3 ∧ ¬ numN T n q < 0 ∧ ¬ 99 < numN T n q then (if wrd T n 13 (endN T n q) = true then (match cnd T n (sk T n (endN T n q) + wl 13) with
            | .inl e => .inl e
            | .inr (s, q2) => .inr ((v, numN T n q, s), q2)) else .inr ((v, numN T n q, []), endN T n q)) else .inl (sk T n q)) = (Sum.inl e : Sum Nat (LL × Nat)) → e ≤ n := by
          intro v q hq hh
          split at hh
          · split at hh
            · rename_i w
              have w := wrd_in (by decide) w
              split at hh
              · rename_i e' hc
                cases hh
                exact pX_e hn _ _ _ _ _ _ w.2 (by rw [cnd_x hn w.2, hc])
              · cases hh
            · cases hh
          · cases hh; exact sk_le hq
        by_cases w1 : wrd T n 10 p = true
        · rw [if_pos w1] at hpl; exact tail _ _ (wrd_in (by decide) w1).2 hpl
        · rw [if_neg w1] at hpl
          by_cases w2 : wrd T n 11 p = true
          · rw [if_pos w2] at hpl; exact tail _ _ (wrd_in (by decide) w2).2 hpl
          · rw [if_neg w2] at hpl
            by_cases w3 : wrd T n 12 p = true
            · rw [if_pos w3] at hpl; exact tail _ _ (wrd_in (by decide) w3).2 hpl
            · rw [if_neg w3] at hpl; cases hpl; exact skn
      have f41 : mx_i h41 381 12 = nI e := by rw [e41, wi_at rfl rfl]
      have e10 : mx_i h41 381 10 = nI n := by rw [u41.1.2 381 10 (by omega)]; exact R5.2.2.1
      have e11 : mx_i h41 381 11 = nI z := by rw [e41, wi_nj (by decide), wi_at rfl rfl]
      have ok : okT2 h41 := by
        by_cases c : z ≤ n
        · exact .inl ⟨T, n, z, frA_Rd u41.1 R5 e11 c⟩
        · refine .inr ?_
          rw [e10, e11]
          exact fun y => absurd ((nI_ltI (by omega) (by omega)).mp y) (by omega)
      refine ⟨ok, fun h46 u46 => ?_⟩
      have f46 : frA h41 h46 ∧ mx_i h46 381 12 = nI e := by
        by_cases c : z ≤ n
        · have e46 := u46.2.1 T n z (frA_Rd u41.1 R5 e11 c)
          exact ⟨by rw [e46]; exact frA_wi (by decide), by rw [e46]; exact f_at.trans f41⟩
        · have := u46.2.2 (by rw [e10, e11]; exact fun y => absurd ((nI_ltI (by omega) (by omega)).mp y) (by omega))
          rw [this]
          exact ⟨frA_rfl, f41⟩
      refine ⟨fun c => absurd (f46.2.symm.trans c) (nI_ne1 (by omega)), fun _ => ?_⟩
      exact tr_224_13 (mxK_G f46.1.1 G41) ⟨fun _ => fin _ _ (frA_tr F41 f46.1) f46.2, fun c => absurd rfl c⟩
    | .inr (L, q), o =>
      rw [hpl] at fin
      obtain ⟨q', hq', sq', e11, f41, a41⟩ := o
      have lp := pLine_pr hn R.2.1 hpl
      have R41 : Rd h41 T n q' := frA_Rd u41.1 R5 e11 hq'
      rw [frA_F F5] at a41
      refine ⟨.inl ⟨T, n, _, R41⟩, fun h46 u46 => ?_⟩
      have e46 := u46.2.1 T n _ R41
      rw [sq'] at e46
      have sqn : sk T n q ≤ n := sk_le lp.2.2
      have R46 : Rd h46 T n (sk T n q) := by rw [e46]; exact Rd_at R41 sqn
      have f46 : mx_i h46 381 12 = -1 := by rw [e46]; exact f_at.trans f41
      have K46 : frA h41 h46 := by rw [e46]; exact frA_wi (by decide)
      have G46 := mxK_G K46.1 G41
      have F46 := frA_tr F41 K46
      have a46 : ∀ j, j < 3 → mx_i h46 381 (17 + j) = mx_i h 381 (17 + j) + (if L.1 = nI j ∧ hl (Fh h0) L.2.2 = true then L.2.1 else 0) := fun j hj => by
        rw [e46, wi_nj (by omega), a41 j hj, s5 j hj]
      refine ⟨fun _ => ?_, fun c => absurd f46 c⟩
      rw [R46.2.2.1, R46.2.2.2.1]
      refine ⟨fun c => ?_, fun c => ?_⟩
      · have c : sk T n q = n := (nI_eq (by omega) (by omega)).mp c
        simp only [if_neg (show ¬ sk T n q < n by omega)] at fin
        refine tr_224_13 G46 ⟨fun _ => fin _ _ F46 ⟨?_, f46, fun j hj => ?_⟩, fun c => absurd rfl c⟩
        · rw [nI_1]; rfl
        · rw [a46 j hj]; rfl
      · have c : sk T n q < n := by
          rcases Nat.lt_or_ge (sk T n q) n with y | y
          · exact y
          · exact absurd (by rw [show sk T n q = n by omega]) c
        simp only [if_pos c] at fin
        refine ⟨⟨T, n, _, R46⟩, fun x52 h53 u53 => ?_⟩
        obtain ⟨e53, ex⟩ := u53.2 T n _ R46
        rw [skk] at e53 ex
        rw [e46, wi_wi] at e53
        have R53 : Rd h53 T n (sk T n q) := by rw [e53]; exact Rd_at R41 sqn
        have f53 : mx_i h53 381 12 = -1 := by rw [e53]; exact f_at.trans f41
        have K53 : frA h41 h53 := by rw [e53]; exact frA_wi (by decide)
        have F53 := frA_tr F41 K53
        by_cases cc : sk T n q < n ∧ T (sk T n q) = 59
        · rw [if_pos cc] at ex
          have sg : sgn T n 59 q = true := decide_eq_true cc
          simp only [if_pos sg] at fin
          refine ⟨fun y => absurd (ex.symm.trans y) (by decide), fun _ h61 e61 => ?_⟩
          rw [e53, wi_at rfl rfl, nI_1, wi_wi] at e61
          have K61 : frA h41 h61 := by rw [e61]; exact frA_wi (by decide)
          rw [nI_1]
          refine ih (sk T n q + 1) (m + 1) h61 (by omega) (mxK_G K61.1 G41) (frA_tr F41 K61) (by rw [e61]; exact f_at.trans f41) (by rw [e61]; exact Rd_at R41 (by omega)) (fun x h1 f r => fin x h1 f ?_)
          match pLs T n j (sk T n q + 1), r with
          | .inl e, r => exact r
          | .inr M, r =>
            obtain ⟨r1, r2, r3⟩ := r
            refine ⟨by rw [r1]; show nI _ = nI _; rw [List.length_cons]; congr 1; omega, r2, fun j hj => ?_⟩
            rw [r3 j hj, e61, wi_nj (by omega), a41 j hj, s5 j hj]
            rfl
        · rw [if_neg cc] at ex
          have sg : ¬ sgn T n 59 q = true := fun y => cc (of_decide_eq_true y)
          simp only [if_neg sg] at fin
          refine ⟨fun _ h57 e57 => ?_, fun y => absurd ex y⟩
          have K57 : frA h53 h57 := by rw [e57, W213f f53]; exact frA_wi (by decide)
          rw [W213f f53, R53.2.2.2.1] at e57
          have f57 : mx_i h57 381 12 = nI (sk T n q) := by rw [e57, wi_at rfl rfl]
          refine tr_224_13 (mxK_G K57.1 (mxK_G K53.1 G41)) ⟨fun c => absurd c (by decide), fun _ => ⟨fun c => absurd (f57.symm.trans c) (nI_ne1 (by omega)), fun _ => fin _ _ (frA_tr F53 K57) f57⟩⟩
def p224 (h : mxH) (x : Int32) (h1 : mxH) : Prop := frA h h1 ∧ ∀ T n, Rd h T n 0 → outS (Fh h) h 0 (pLaw T n) x h1
theorem sp_224 {d : Nat} {h : mxH} {Q : mxO → mxH → Prop} {i1 : Int32} (G : mxG h) (hi1 : ¬ i1 = 0) (ok : okT h) (h0 : mx_i h 381 11 = 0) (hf : mx_i h 381 12 = -1) (h01 : fc01 h) (hd : mx_i h 381 13 = 0) (k : ∀ x h1, p224 h x h1 → Q (.inl (some (.int x))) h1) : mx_wp (d + 32) 224 0 (mx_fr 224 [.ref 381, .int i1]) [] h Q := by
  obtain ⟨T, n, p, R⟩ := ok
  have hn := R.1
  have p0 : p = 0 := (nI_eq (by have := R.2.1; omega) (by omega)).mp (R.2.2.2.1.symm.trans h0)
  subst p0
  have fin : ∀ x h1, frA h h1 → outS (Fh h) h 0 (pLaw T n) x h1 → Q (.inl (some (.int x))) h1 := by
    intro x h1 K r
    refine k x h1 ⟨K, fun T' n' R' => ?_⟩
    obtain ⟨e1, e2, e3⟩ := Rd_uniq R R'
    rw [e1, e2]
    exact r
  have skn : sk T n 0 ≤ n := sk_le (Nat.zero_le _)
  refine tr_224_0 G ⟨.inl ⟨T, n, 0, R⟩, fun h3 u3 v6 e6 => ?_⟩
  have e3 := u3.2.1 T n 0 R
  have R3 : Rd h3 T n (sk T n 0) := by rw [e3]; exact Rd_at R skn
  have K3 : frA h h3 := by rw [e3]; exact frA_wi (by decide)
  have G3 := mxK_G K3.1 G
  have s3 : ∀ j, j < 3 → mx_i h3 381 (17 + j) = mx_i h 381 (17 + j) := fun j hj => by rw [e3, wi_nj (by omega)]
  simp only [Rd_lt R3] at e6
  unfold pLaw at fin
  by_cases c : sk T n 0 < n
  · rw [if_pos c] at e6 fin
    rw [e6]
    have f3 : mx_i h3 381 12 = -1 := by rw [e3]; exact f_at.trans hf
    refine H224 (n := n) (T := T) (h0 := h) hi1 h01 hd 12 (sk T n 0) 0 h3 rfl G3 K3 f3 R3 (fun x h1 f r => fin x h1 f ?_)
    have ps : pLs T n 12 (sk T n 0) = pLs T n 12 0 := by
      have pl : pLine T n (sk T n 0) = pLine T n 0 := by
        unfold pLine pKd
        rw [wrd_sk, wrd_sk, wrd_sk, skk]
      unfold pLs
      rw [pl]
    rw [ps] at r
    match pLs T n 12 0, r with
    | .inl e, r => exact r
    | .inr M, r => exact ⟨r.1, r.2.1, fun j hj => by rw [r.2.2 j hj, s3 j hj]⟩
  · rw [if_neg c] at e6 fin
    rw [e6]
    exact tr_224_13 G3 ⟨fun _ => fin _ _ K3 ⟨rfl, by rw [e3]; exact f_at.trans hf, s3⟩, fun y => absurd rfl y⟩
