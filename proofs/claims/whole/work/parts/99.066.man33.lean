/-! SPECS by hand, 33: a text of the valley: the reference -/
theorem bi_l {α β : Type} {x : Sum Nat α} {f : α → Sum Nat β} {e : Nat} (h : bnd x f = .inl e) : x = .inl e ∨ ∃ a, x = .inr a ∧ f a = .inl e := by
  cases x with
  | inl e' => cases h; exact .inl rfl
  | inr a => exact .inr ⟨a, rfl, h⟩
theorem vLn_e {T : Nat → Int32} {n p e np ns : Nat} {r : Nat → Int32} (hp : p ≤ n) (h6 : np ≤ 6) (h : vLn T n r np ns p = .inl e) : e ≤ n := by
  have skn : sk T n p ≤ n := sk_le hp
  unfold vLn at h
  split at h
  · split at h
    · cases h; exact skn
    · unfold vPer at h
      rcases bi_l h with b0 | ⟨p0, b0, h⟩
      · exact (wd_e hp b0).2
      have k0 := (wd_pr (by decide) b0).2
      rcases bi_l h with b1 | ⟨x1, b1, h⟩
      · exact (nb_e k0 b1).2
      have k1 := (nb_pr k0 (show nb T n 0 999 p0 = .inr (x1.1, x1.2) from b1)).2.2
      rcases bi_l h with b2 | ⟨p2, b2, h⟩
      · exact (wd_e k1 b2).2
      have k2 := (wd_pr (by decide) b2).2
      rcases bi_l h with b3 | ⟨x3, b3, h⟩
      · exact (nb_e k2 b3).2
      have k3 := (nb_pr k2 (show nb T n 1 60 p2 = .inr (x3.1, x3.2) from b3)).2.2
      rcases bi_l h with b4 | ⟨p4, b4, h⟩
      · exact (wd_e k3 b4).2
      have k4 := (wd_pr (by decide) b4).2
      rcases bi_l h with b5 | ⟨x5, b5, h⟩
      · exact (nb_e k4 b5).2
      split at h
      · rename_i w
        rcases bi_l h with b6 | ⟨x6, b6, h⟩
        · exact (nb_e (wrd_in (by decide) w).2 b6).2
        · cases h
      · cases h
  · split at h
    · split at h
      · cases h; exact skn
      · unfold vSto at h
        rcases bi_l h with b0 | ⟨p0, b0, h⟩
        · exact (wd_e hp b0).2
        have k0 := (wd_pr (by decide) b0).2
        rcases bi_l h with b1 | ⟨x1, b1, h⟩
        · exact (nb_e k0 b1).2
        have k1 := (nb_pr k0 (show nb T n 1 40 p0 = .inr (x1.1, x1.2) from b1)).2.2
        rcases bi_l h with b2 | ⟨p2, b2, h⟩
        · exact (wd_e k1 b2).2
        have k2 := (wd_pr (by decide) b2).2
        rcases bi_l h with b3 | ⟨x3, b3, h⟩
        · exact nbx_e k2 b3
        have k3 := (nbx_pr h6 k2 (show nbx T n np (-1) p2 = .inr (x3.1, x3.2) from b3)).2.2.2
        rcases bi_l h with b4 | ⟨p4, b4, h⟩
        · exact (wd_e k3 b4).2
        have k4 := (wd_pr (by decide) b4).2
        rcases bi_l h with b5 | ⟨x5, b5, h⟩
        · exact nbx_e k4 b5
        split at h
        · rename_i w
          rcases bi_l h with b6 | ⟨p6, b6, h⟩
          · exact (wd_e (wrd_in (by decide) w).2 b6).2
          have k6 := (wd_pr (by decide) b6).2
          rcases bi_l h with b7 | ⟨x7, b7, h⟩
          · exact nbx_e k6 b7
          · cases h
        · cases h
    · split at h
      · rename_i w
        have kw := (wrd_in (by decide) w).2
        unfold vSlo at h
        rcases bi_l h with b1 | ⟨x1, b1, h⟩
        · exact (nb_e kw b1).2
        have k1 := (nb_pr kw (show nb T n 0 11 _ = .inr (x1.1, x1.2) from b1)).2.2
        rcases bi_l h with b2 | ⟨x2, b2, h⟩
        · exact (nb_e k1 b2).2
        · cases h
      · split at h
        · rename_i w
          unfold vPor at h
          rcases bi_l h with b1 | ⟨x1, b1, h⟩
          · exact (nb_e (wrd_in (by decide) w).2 b1).2
          · cases h
        · split at h
          · rename_i w
            unfold vLim vTel at h
            rcases bi_l h with b1 | ⟨x1, b1, h⟩
            · exact (nb_e (wrd_in (by decide) w).2 b1).2
            · cases h
          · split at h
            · rename_i w
              unfold vHou vTel at h
              rcases bi_l h with b1 | ⟨x1, b1, h⟩
              · exact (nb_e (wrd_in (by decide) w).2 b1).2
              · cases h
            · cases h; exact skn
theorem vLn_sk {T : Nat → Int32} {n p np ns : Nat} {r : Nat → Int32} : vLn T n r np ns (sk T n p) = vLn T n r np ns p := by
  have ew : ∀ k, wd T n k (sk T n p) = wd T n k p := fun k => by unfold wd; rw [wrd_sk, skk]
  unfold vLn vPer vSto
  simp only [wrd_sk, skk, ew]
def outZ (h1 : mxH) (res : Sum Nat ((Nat → Int32) × Nat × Nat)) : Prop := match res with
  | .inl e => mx_i h1 381 12 = nI e
  | .inr (r', _, _) => mx_i h1 382 = r' ∧ mx_i h1 381 12 = -1
theorem frM_Rd {h h1 : mxH} {T : Nat → Int32} {n p q : Nat} (u : frM h h1) (b : mx_i h 381 9 = -1) (R : Rd h T n p) (e : mx_i h1 381 11 = nI q) (hq : q ≤ n) : Rd h1 T n q := by
  obtain ⟨a1, a2, a3, a4, a5, a6⟩ := R
  refine ⟨a1, hq, by rw [u.2.2 10 (by decide) (by decide)]; exact a3, e, a5, .inl ⟨by rw [u.2.2 9 (by decide) (by decide)]; exact b, fun k hk => ?_⟩⟩
  rcases a6 with ⟨x, y⟩ | ⟨x, y⟩
  · rw [u.2.1 386 (by decide) (by decide)]; exact y k hk
  · rw [b] at x; exact absurd x (by decide)
theorem keepR_rfl {r : Nat → Int32} : keepR r r := fun _ _ => rfl
theorem keepR_tr {r r1 r2 : Nat → Int32} (u : keepR r r1) (w : keepR r1 r2) : keepR r r2 := fun k hk => (w k hk).trans (u k hk)
theorem H224v {d n : Nat} {T : Nat → Int32} {h0 : mxH} {Q : mxO → mxH → Prop} {res : Sum Nat ((Nat → Int32) × Nat × Nat)} (b0 : mx_i h0 381 9 = -1) (fin : ∀ x h1, frM h0 h1 → keepR (mx_i h0 382) (mx_i h1 382) → outZ h1 res → Q (.inl (some (.int x))) h1) : ∀ (j p m np ns : Nat) (h : mxH), j + m = 14 → mxG h → frM h0 h → keepR (mx_i h0 382) (mx_i h 382) → mx_i h 381 12 = -1 → Rd h T n p → wk (mx_i h 382) np ns → vLs T n j (mx_i h 382) np ns p = res → H_224_13 (d + 32) h 0 1 (nI m) Q := by
  intro j
  induction j with
  | zero =>
    intro p m np ns h hj G F KR hf R w hR
    have hn := R.1
    have skn : sk T n p ≤ n := sk_le R.2.1
    have hR : Sum.inl (sk T n p) = res := hR
    refine trn_224_13 G ⟨fun c => absurd c (by decide), fun _ => ⟨fun _ => ⟨.inl ⟨T, n, p, R⟩, fun h5 u5 v8 e8 => ?_⟩, fun c => absurd hf c⟩⟩
    rw [if_pos rfl] at e8
    have e5 := u5.2.1 T n p R
    refine ⟨fun _ h64 e64 => ?_, fun c => absurd (by rw [e8]; show nI m = nI 14; rw [show m = 14 by omega]) c⟩
    have f5 : mx_i h5 381 12 = -1 := by rw [e5]; exact f_at.trans hf
    rw [W213f f5, e5, wi_at rfl rfl] at e64
    have b64 : bad h n (sk T n p) h64 := ⟨_, skn, e64⟩
    have R64 : Rd h64 T n (sk T n p) := by rw [e64]; exact Rd_wi (Rd_at R skn) (by decide)
    refine ⟨.inl ⟨T, n, _, R64⟩, fun h70 u70 => ?_⟩
    have e70 := u70.2.1 T n _ R64
    rw [skk] at e70
    have i70 : h70 = h64 := by rw [e70]; exact wi_id R64.2.2.2.1
    subst i70
    have f70 : mx_i h70 381 12 = nI (sk T n p) := by rw [e64, wi_at rfl rfl]
    refine ⟨fun c => absurd (f70.symm.trans c) (nI_ne1 (by omega)), fun _ => ?_⟩
    refine trn_224_13 (mxK_G (frM_bad b64).1 G) ⟨fun _ => fin _ _ (frM_tr F (frM_bad b64)) (by rw [bad_382 b64]; exact KR) ?_, fun c => absurd rfl c⟩
    rw [← hR]
    exact f70
  | succ j ih =>
    intro p m np ns h hj G F KR hf R w hR
    have hn := R.1
    have skn : sk T n p ≤ n := sk_le R.2.1
    have bh : mx_i h 381 9 = -1 := (F.2.2 9 (by decide) (by decide)).trans b0
    refine trn_224_13 G ⟨fun c => absurd c (by decide), fun _ => ⟨fun _ => ⟨.inl ⟨T, n, p, R⟩, fun h5 u5 v8 e8 => ?_⟩, fun c => absurd hf c⟩⟩
    rw [if_pos rfl] at e8
    have e5 := u5.2.1 T n p R
    refine ⟨fun c => absurd ((nI_eq (by omega) (by omega)).mp (show nI m = nI 14 from c.trans e8)) (by omega), fun _ => ⟨fun _ => ?_, fun c => absurd rfl c⟩⟩
    have f5 : mx_i h5 381 12 = -1 := by rw [e5]; exact f_at.trans hf
    have R5 : Rd h5 T n (sk T n p) := by rw [e5]; exact Rd_at R skn
    have m5 : mx_i h5 382 = mx_i h 382 := by rw [e5]; exact wi_ne (by decide)
    have F5 : frM h h5 := by rw [e5]; exact frM_at
    have G5 := mxK_G u5.1 G
    refine ⟨⟨T, n, _, R5⟩, f5, by rw [m5]; exact ⟨np, w.1, w.2.2.1⟩, by rw [m5]; exact ⟨ns, w.2.1, w.2.2.2⟩, fun h16 u16 => ?_⟩
    have o := u16.2 T n _ np ns R5 w.1 w.2.1 (by rw [m5]; exact w.2.2.1) (by rw [m5]; exact w.2.2.2)
    rw [m5, vLn_sk] at o
    have o : outM h T n (vLn T n (mx_i h 382) np ns p) h16 := outM_at (q := sk T n p) (by rw [← e5]; exact o)
    have F16 := frM_tr F (outM_fr o)
    have G16 := mxK_G (outM_fr o).1 G
    unfold vLs at hR
    match hl : vLn T n (mx_i h 382) np ns p, o with
    | .inl e, o =>
      rw [hl] at hR
      have hR : Sum.inl e = res := hR
      have he := vLn_e R.2.1 w.1 hl
      have nf : ¬ mx_i h16 381 12 = -1 := bad_f (by omega) o
      have f16 : mx_i h16 381 12 = nI e := by
        obtain ⟨z, hz, ez⟩ := o
        rw [ez, wi_at rfl rfl]
      have m16 := bad_382 o
      obtain ⟨T', n', p', R16⟩ := bad_R R o
      refine ⟨.inl ⟨T', n', p', R16⟩, fun h21 u21 => ?_⟩
      have e21 := u21.2.1 T' n' p' R16
      have f21 : mx_i h21 381 12 = nI e := by rw [e21]; exact f_at.trans f16
      have F21 : frM h16 h21 := by rw [e21]; exact frM_at
      refine ⟨fun c => absurd (f21.symm.trans c) (nI_ne1 (by omega)), fun _ => ?_⟩
      refine trn_224_13 (mxK_G F21.1 G16) ⟨fun _ => fin _ _ (frM_tr F16 F21) (by rw [e21, wi_ne (by decide), m16]; exact KR) ?_, fun c => absurd rfl c⟩
      rw [← hR]
      exact f21
    | .inr (r', np', ns', q), o =>
      rw [hl] at hR
      obtain ⟨w', hq, kr⟩ := vLn_wk R.2.1 w hl
      obtain ⟨o1, o2, o3, o4, q', hq', sq', e11⟩ := o
      have f16 : mx_i h16 381 12 = -1 := (o4 12 (by decide)).trans hf
      have Fo : frM h h16 := ⟨o1, o2, fun k a _ => o4 k a⟩
      have R16 : Rd h16 T n q' := frM_Rd Fo bh R e11 hq'
      refine ⟨.inl ⟨T, n, _, R16⟩, fun h21 u21 => ?_⟩
      have e21 := u21.2.1 T n _ R16
      rw [sq'] at e21
      have sqn : sk T n q ≤ n := sk_le hq
      have R21 : Rd h21 T n (sk T n q) := by rw [e21]; exact Rd_at R16 sqn
      have f21 : mx_i h21 381 12 = -1 := by rw [e21]; exact f_at.trans f16
      have F21 : frM h16 h21 := by rw [e21]; exact frM_at
      have G21 := mxK_G F21.1 G16
      have m21 : mx_i h21 382 = r' := by rw [e21, wi_ne (by decide)]; exact o3
      have K21 : keepR (mx_i h0 382) (mx_i h21 382) := by rw [m21]; exact keepR_tr KR kr
      refine ⟨fun _ => ?_, fun c => absurd f21 c⟩
      rw [R21.2.2.1, R21.2.2.2.1]
      refine ⟨fun c => ?_, fun c => ?_⟩
      · have c : sk T n q = n := (nI_eq (by omega) (by omega)).mp c
        simp only [if_neg (show ¬ sk T n q < n by omega)] at hR
        refine trn_224_13 G21 ⟨fun _ => fin _ _ (frM_tr F16 F21) K21 ?_, fun c => absurd rfl c⟩
        rw [← hR]
        exact ⟨m21, f21⟩
      · have c : sk T n q < n := by
          rcases Nat.lt_or_ge (sk T n q) n with y | y
          · exact y
          · exact absurd (by rw [show sk T n q = n by omega]) c
        simp only [if_pos c] at hR
        refine ⟨⟨T, n, _, R21⟩, fun x27 h28 u28 => ?_⟩
        obtain ⟨e28, ex⟩ := u28.2 T n _ R21
        rw [skk] at e28 ex
        rw [e21, wi_wi] at e28
        have R28 : Rd h28 T n (sk T n q) := by rw [e28]; exact Rd_at R16 sqn
        have f28 : mx_i h28 381 12 = -1 := by rw [e28]; exact f_at.trans f16
        have F28 : frM h16 h28 := by rw [e28]; exact frM_at
        have m28 : mx_i h28 382 = r' := by rw [e28, wi_ne (by decide)]; exact o3
        by_cases cc : sk T n q < n ∧ T (sk T n q) = 59
        · rw [if_pos cc] at ex
          have sg : sgn T n 59 q = true := decide_eq_true cc
          simp only [if_pos sg] at hR
          refine ⟨fun y => absurd (ex.symm.trans y) (by decide), fun _ h36 e36 => ?_⟩
          rw [e28, wi_at rfl rfl, nI_1, wi_wi] at e36
          have F36 : frM h16 h36 := by rw [e36]; exact frM_at
          have m36 : mx_i h36 382 = r' := by rw [e36, wi_ne (by decide)]; exact o3
          rw [nI_1]
          refine ih (sk T n q + 1) (m + 1) np' ns' h36 (by omega) (mxK_G F36.1 G16) (frM_tr F16 F36) (by rw [m36]; exact keepR_tr KR kr) (by rw [e36]; exact f_at.trans f16) (by rw [e36]; exact Rd_at R16 (by omega)) (by rw [m36]; exact w') ?_
          rw [m36]
          exact hR
        · rw [if_neg cc] at ex
          have sg : ¬ sgn T n 59 q = true := fun y => cc (of_decide_eq_true y)
          simp only [if_neg sg] at hR
          refine ⟨fun _ h32 e32 => ?_, fun y => absurd ex y⟩
          rw [W213f f28, R28.2.2.2.1] at e32
          have F32 : frM h28 h32 := by
            rw [e32]
            exact ⟨mxK_wi, fun b a _ => wi_ne a, fun k _ c => wi_nj c⟩
          have f32 : mx_i h32 381 12 = nI (sk T n q) := by rw [e32, wi_at rfl rfl]
          have m32 : mx_i h32 382 = r' := by rw [e32, wi_ne (by decide)]; exact m28
          refine trn_224_13 (mxK_G F32.1 (mxK_G F28.1 G16)) ⟨fun c => absurd c (by decide), fun _ => ⟨fun c => absurd (f32.symm.trans c) (nI_ne1 (by omega)), fun _ => fin _ _ (frM_tr (frM_tr F16 F28) F32) (by rw [m32]; exact keepR_tr KR kr) ?_⟩⟩
          have hR : Sum.inl (sk T n q) = res := hR
          rw [← hR]
          exact f32
def p224v (h : mxH) (x : Int32) (h1 : mxH) : Prop := frM h h1 ∧ keepR (mx_i h 382) (mx_i h1 382) ∧ ∀ T n np ns, Rd h T n 0 → wk (mx_i h 382) np ns → outZ h1 (vAll T n (mx_i h 382) np ns)
theorem sp_224v {d : Nat} {h : mxH} {Q : mxO → mxH → Prop} {i1 : Int32} (G : mxG h) (hi1 : i1 = 0) (ok : okT h) (h0 : mx_i h 381 11 = 0) (hf : mx_i h 381 12 = -1) (hb : mx_i h 381 9 = -1) (okp : cB (mx_i h 382 3) 6) (oks : cB (mx_i h 382 4) 10) (k : ∀ x h1, p224v h x h1 → Q (.inl (some (.int x))) h1) : mx_wp (d + 32) 224 0 (mx_fr 224 [.ref 381, .int i1]) [] h Q := by
  subst hi1
  obtain ⟨T, n, p, R⟩ := ok
  obtain ⟨np, hnp, enp⟩ := okp
  obtain ⟨ns, hns, ens⟩ := oks
  have hn := R.1
  have p0 : p = 0 := (nI_eq (by have := R.2.1; omega) (by omega)).mp (R.2.2.2.1.symm.trans h0)
  subst p0
  have fin : ∀ x h1, frM h h1 → keepR (mx_i h 382) (mx_i h1 382) → outZ h1 (vAll T n (mx_i h 382) np ns) → Q (.inl (some (.int x))) h1 := by
    intro x h1 F K o
    refine k x h1 ⟨F, K, fun T' n' np' ns' R' w' => ?_⟩
    obtain ⟨rfl, rfl, -⟩ := Rd_uniq R R'
    obtain rfl : np' = np := ((nI_eq (by omega) (by have := w'.1; omega)).mp (enp.symm.trans w'.2.2.1)).symm
    obtain rfl : ns' = ns := ((nI_eq (by omega) (by have := w'.2.1; omega)).mp (ens.symm.trans w'.2.2.2)).symm
    exact o
  have skn : sk T n 0 ≤ n := sk_le (Nat.zero_le _)
  refine trn_224_0 G ⟨.inl ⟨T, n, 0, R⟩, fun h3 u3 v6 e6 => ?_⟩
  have e3 := u3.2.1 T n 0 R
  have R3 : Rd h3 T n (sk T n 0) := by rw [e3]; exact Rd_at R skn
  have F3 : frM h h3 := by rw [e3]; exact frM_at
  have G3 := mxK_G F3.1 G
  have m3 : mx_i h3 382 = mx_i h 382 := by rw [e3]; exact wi_ne (by decide)
  have f3 : mx_i h3 381 12 = -1 := by rw [e3]; exact f_at.trans hf
  simp only [Rd_lt R3] at e6
  unfold vAll at fin
  by_cases c : sk T n 0 < n
  · rw [if_pos c] at e6 fin
    rw [e6]
    refine H224v (n := n) (T := T) (h0 := h) (res := vLs T n 14 (mx_i h 382) np ns 0) hb fin 14 (sk T n 0) 0 np ns h3 rfl G3 F3 (by rw [m3]; exact keepR_rfl) f3 R3 (by rw [m3]; exact ⟨hnp, hns, enp, ens⟩) ?_
    rw [m3]
    unfold vLs
    rw [vLn_sk]
  · rw [if_neg c] at e6 fin
    rw [e6]
    exact trn_224_13 G3 ⟨fun _ => fin _ _ F3 (by rw [m3]; exact keepR_rfl) ⟨m3, f3⟩, fun y => absurd rfl y⟩
