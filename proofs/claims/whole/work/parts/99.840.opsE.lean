/-! OPS E: the valley is told -/
theorem CpN_tx {r : Nat → Int32} {v : Nat → Nat → Int32} {np ns nl : Nat} (C : CpN v r np ns nl) {w : Int32} (hw : isR w 0 12) : CpN (vs v 0 8 w) (rs r 0 w) np ns nl := by
  obtain ⟨c0, c1, c2, u, s, l⟩ := C
  refine ⟨Cp0_c (vs_ne (by omega)) (vs_ne (by omega)) (vs_ne (by omega)) (rs_ne (by omega)) (rs_ne (by omega)) (rs_ne (by omega)) c0, ?_, Cp2_c (vs_ne (by omega)) (fun p hp => vs_ne (by omega)) (fun k a b => rs_ne (by omega)) c2, CpU_c c0.1 (vs_ne (by omega)) (fun k x a b c => vs_ne (by omega)) (fun k a b => rs_ne (by omega)) u, CpS_c c0.2.1 (fun k z a b c => vs_ne (by omega)) (fun k a b => rs_ne (by omega)) s, CpL_c c0.2.2.1 (fun j hj => vs_ne (by omega)) (fun k a b => rs_ne (by omega)) l⟩
  obtain ⟨a1, a2, a3, a4, a5, a6, a7⟩ := c1
  refine ⟨?_, ?_, ?_, ?_, ?_, ?_, ?_⟩
  · rw [vs_at, rs_at]
  · rw [vs_ne (by omega), rs_ne (by omega)]; exact a2
  · rw [vs_ne (by omega), rs_ne (by omega)]; exact a3
  · rw [vs_ne (by omega), rs_ne (by omega)]; exact a4
  · rw [rs_at]; exact hw
  · rw [rs_ne (by omega)]; exact a6
  · rw [rs_ne (by omega)]; exact a7
theorem vAll_e {T : Nat → Int32} {n np ns e : Nat} {r : Nat → Int32} (w : wk r np ns) (h : vAll T n r np ns = .inl e) : e ≤ n := by
  have key : ∀ (j p np ns : Nat) (r : Nat → Int32), p ≤ n → wk r np ns → vLs T n j r np ns p = .inl e → e ≤ n := by
    intro j
    induction j with
    | zero => intro p np ns r hp w h; cases h; exact sk_le hp
    | succ j ih =>
      intro p np ns r hp w h
      unfold vLs at h
      match hl : vLn T n r np ns p with
      | .inl e' => rw [hl] at h; cases h; exact vLn_e hp w.1 hl
      | .inr (r', np', ns', q) =>
        rw [hl] at h
        obtain ⟨w', hq, -⟩ := vLn_wk hp w hl
        simp only [] at h
        split at h
        · rename_i c
          split at h
          · exact ih _ _ _ _ (by omega) w' h
          · cases h; omega
        · cases h
  unfold vAll at h
  split at h
  · exact key _ _ _ _ _ (Nat.zero_le _) w h
  · cases h
theorem vAll_k {T : Nat → Int32} {n np ns np' ns' : Nat} {r r' : Nat → Int32} (w : wk r np ns) (h : vAll T n r np ns = .inr (r', np', ns')) : keepR r r' := by
  have key : ∀ (j p np ns : Nat) (r : Nat → Int32), p ≤ n → wk r np ns → vLs T n j r np ns p = .inr (r', np', ns') → keepR r r' := by
    intro j
    induction j with
    | zero => intro p np ns r hp w h; cases h
    | succ j ih =>
      intro p np ns r hp w h
      unfold vLs at h
      match hl : vLn T n r np ns p with
      | .inl e' => rw [hl] at h; cases h
      | .inr (r1, np1, ns1, q) =>
        rw [hl] at h
        obtain ⟨w', hq, kr⟩ := vLn_wk hp w hl
        simp only [] at h
        split at h
        · rename_i c
          split at h
          · exact keepR_tr kr (ih _ _ _ _ (by omega) w' h)
          · cases h
        · cases h; exact kr
  unfold vAll at h
  split at h
  · exact key _ _ _ _ _ (Nat.zero_le _) w h
  · cases h; exact keepR_rfl
theorem op_valley : Op LWd 134 227 [] (fun k => if k = 0 then 1 else if k = 1 then 2 else 0) := by
  intro h vn vd vr vq np ns nl I
  have S := I.2.1
  have C := I.2.2.1
  have sa := S.2.2.2.2.1
  have sb := S.2.2.2.2.2.1
  obtain ⟨W, LC0, LR0⟩ := I.2.2.2.1
  have wk0 : wk (mx_i h 382) np ns := ⟨C_np6 C, C_ns10 C, C_np C, C_ns C⟩
  have tx : isR (mx_i h 382 0) 0 12 := C.2.1.2.2.2.2.1
  obtain ⟨T, n, X, x1, x8, xt⟩ := Tp_T I.2.2.2.2.1
  have hn := X.1
  have hVd := mxS_vd S
  refine tr_134_0 I.1 S ⟨⟨T, n, X, x1⟩, fun h3 u3 h8 u8 => ?_⟩
  have C3 := u3.2 T n X x1
  obtain ⟨f88, -⟩ := u3
  have i3 : ∀ b, b ≠ 101 → ¬ (103 ≤ b ∧ b ≤ 105) → mx_i h3 b = mx_i h b := fun b b1 b2 => f88.1.2.2 b (by omega)
  have C8 : Cl h8 T n 0 := Cl_U u8.1 (fun c c1 c2 => by omega) C3
  have V3 : CpN (vw h3 vn) (mx_i h 382) np ns nl := CpN_congr (fun k j hk => by
    show mx_i h3 (vn + k) j = mx_i h (vn + k) j
    rw [i3 _ (by omega) (by omega)]) (fun _ _ _ _ => rfl) C
  have V8 : CpN (vw h8 vd) (mx_i h 382) np ns nl := cp_CpN u8 V3
  refine ⟨⟨(T, n, mx_i h 382, np, ns, nl), C8, V8⟩, fun x13 h14 u14 => ?_⟩
  have o := u14.2 T n (mx_i h 382) np ns nl C8 V8
  obtain ⟨u14, -⟩ := u14
  have i14 : ∀ b, b ≠ 101 → ¬ (103 ≤ b ∧ b ≤ 105) → ¬ (vd ≤ b ∧ b ≤ vd + 15) → mx_i h14 b = mx_i h b := fun b b1 b2 b3 => by
    rw [mxU_i u14.1 (by omega), mxU_i u8.1 (by omega), i3 b b1 b2]
  have r14 : ∀ b, b ≠ 106 → mx_r h14 b = mx_r h b := fun b hb => by rw [u14.1.2.2.2.1, u8.1.2.2.2.1]; exact f88.1.2.1 b hb
  have c14 : mx_c h14 = mx_c h := u14.1.1.trans (u8.1.1.trans f88.1.1)
  have q14 : bq h h14 := ⟨u14.1.2.1.trans (u8.1.2.1.trans f88.2.1.1), u14.1.2.2.1.trans (u8.1.2.2.1.trans f88.2.1.2.1)⟩
  have G14 := mxU_G u14.1 (mxU_G u8.1 (agr_G f88.1 I.1))
  have S14 : mxS h14 vn vd vr vq := mxU_S u14.1 (mxU_S u8.1 (agr_S f88.1 S))
  -- the reference
  have ref : ∀ (hm : mxH) (Q : mxO → mxH → Prop), mxG hm → mx_i hm 381 = mx_i h 381 → mx_i hm 382 = mx_i h 382 → mx_i hm 386 = mx_i h 386 → (∀ h5 h17, h5 = W_223 (W_225 hm) → frM h5 h17 → mx_i h5 382 = mx_i h 382 → keepR (mx_i h 382) (mx_i h17 382) → outZ h17 (vAll T n (mx_i h 382) np ns) → (∀ v20, v20 = ((if (mx_i h17 381 12) = (-1) then (if (mx_i h17 382 0) = 12 then 2 else 0) else 1) : Int32) → ∀ h21, h21 = mx_wi h17 381 0 v20 → ((0 < (mx_i h21 381 0) → (∀ h31, h31 = W_226 h21 → Q (.inl (some (.int 0))) h31)) ∧ (¬ 0 < (mx_i h21 381 0) → (∀ h25, h25 = mx_wi h21 382 0 ((mx_i h21 382 0) + 1) → (∀ h28, h28 = mx_wi h25 381 6 0 → Q (.inl (some (.int (mx_i h28 382 0)))) h28)))))) → mx_wp 500 227 0 (mx_fr 227 [.ref 381]) [] hm Q := by
    intro hm Q Gm e381 e382 e386 kk
    refine trn_227_0 (d := 467) Gm (fun h1 e1 h5 e5 => ?_)
    have w1 := W225_p (h := hm)
    rw [← e1] at w1
    obtain ⟨a1, a2, a3, a4, a5, a6, a7⟩ := W223_p (h := h1)
    rw [← e5] at a1 a2 a3 a4 a5 a6 a7
    have i1 : ∀ b, b ≠ 384 → mx_i h1 b = mx_i hm b := fun b hb => mxU_i w1.1 hb
    have m5 : mx_i h5 382 = mx_i h 382 := by rw [a1.2.1 382 (by decide), i1 382 (by decide)]; exact e382
    have R5 : Rd h5 T n 0 := ⟨hn, Nat.zero_le _, by rw [a4, i1 381 (by decide), e381]; exact x8, a6, X.2.1, .inl ⟨a3, fun k hk => by rw [a1.2.1 386 (by decide), i1 386 (by decide), e386]; exact xt k hk⟩⟩
    refine ⟨rfl, ⟨T, n, 0, R5⟩, a6, a2, a3, by rw [m5]; exact C_rp C, by rw [m5]; exact C_rs C, fun x16 h17 u17 v20 e20 h21 e21 => ?_⟩
    have kr := u17.2.1
    rw [m5] at kr
    have o := u17.2.2 T n np ns R5 (by rw [m5]; exact wk0)
    rw [m5] at o
    exact kk h5 h17 (by rw [e5, e1]) u17.1 m5 kr o v20 e20 h21 e21
  -- nothing has come of it
  have no : ∀ (h19 : mxH) (f e : Nat) (t F : Int32), h19 = mx_wi (mx_wi h14 100 14 F) 101 1 0 → (∀ h17 : mxH, frM (W_223 (W_225 h17)) h17 → True) → (f = 0 ∧ t = 1 ∨ f = 1 ∧ t = 2) → (∀ h17 v20, keepR (mx_i h 382) (mx_i h17 382) → outZ h17 (vAll T n (mx_i h 382) np ns) → v20 = ((if (mx_i h17 381 12) = (-1) then (if (mx_i h17 382 0) = 12 then 2 else 0) else 1) : Int32) → v20 = t ∧ mx_i h17 381 12 = F) → ∀ hm, mdl (mx_ex h19) hm → mx_wp 500 227 0 (mx_fr 227 [.ref 381]) [] hm (fun o2 h2 => ∃ b, o2 = .inl (some (.int b)) ∧ ansOk (fun k => if k = 0 then 1 else if k = 1 then 2 else 0) (.inr f) b (mx_i h2 381 0) ∧ bud h h2 ∧ ∃ vn vd vr vq np ns nl, Inv LWd h2 vn vd vr vq np ns nl) := by
    intro h19 f e t F e19 _ ft hv hm hmd
    have i19 : ∀ b, b ≠ 100 → b ≠ 101 → mx_i h19 b = mx_i h14 b := fun b b1 b2 => by rw [e19, wi_ne b2, wi_ne b1]
    have im : mx_i hm = mx_i h19 := hmd.2.2.2.1
    have r19 : mx_r h19 = mx_r h14 := by rw [e19]; rfl
    have jm : ∀ b, b ≠ 100 → b ≠ 101 → ¬ (103 ≤ b ∧ b ≤ 105) → ¬ (vd ≤ b ∧ b ≤ vd + 15) → mx_i hm b = mx_i h b := fun b b0 b1 b2 b3 => by rw [im, i19 b b0 b1, i14 b b1 b2 b3]
    have Gm : mxG hm := agr_G (P := fun _ => False) (agr_mdl hmd) (mxG_ex (by rw [e19]; exact mxG_wi (mxG_wi G14)))
    refine ref hm _ Gm (jm 381 (by decide) (by decide) (by omega) (by omega)) (jm 382 (by decide) (by decide) (by omega) (by omega)) (jm 386 (by decide) (by decide) (by omega) (by omega)) (fun h5 h17 e5 u17 m5 kr o v20 e20 h21 e21 => ?_)
    obtain ⟨ev, ef⟩ := hv h17 v20 kr o e20
    subst ev
    have t21 : mx_i h21 381 0 = v20 := by rw [e21, thr0]
    have tp : 0 < v20 := by rcases ft with ⟨-, rfl⟩ | ⟨-, rfl⟩ <;> decide
    rw [t21]
    refine ⟨fun _ h31 e31 => ?_, fun q => absurd tp q⟩
    have w1 := W225_p (h := hm)
    obtain ⟨a1, a2, a3, a4, a5, a6, a7⟩ := W223_p (h := W_225 hm)
    rw [← e5] at a1 a2 a3 a4 a5 a6 a7
    have w2 := W226_p (h := h21)
    rw [← e31] at w2
    have i31 : ∀ b, b ≠ 381 → b ≠ 382 → b ≠ 384 → mx_i h31 b = mx_i hm b := fun b b1 b2 b3 => by
      rw [mxU_i w2.1 b2, e21, wi_ne b1, u17.2.1 b b1 b2, a1.2.1 b b1, mxU_i w1.1 b3]
    have m31 : mx_i h31 382 = mx_i h 382 := by
      funext j
      rw [w2.2 j]
      by_cases c : j < 369
      · rw [if_pos c, e21, wi_ne (by decide), u17.2.1 384 (by decide) (by decide), a1.2.1 384 (by decide), w1.2 j, if_pos c, jm 382 (by decide) (by decide) (by omega) (by omega)]
      · rw [if_neg c, e21, wi_ne (by decide)]
        exact kr j (by omega)
    have j31 : ∀ k, k ≠ 0 → mx_i h31 381 k = mx_i h17 381 k := fun k hk => by rw [mxU_i w2.1 (by decide), e21, wi_nj hk]
    have j17 : ∀ k, ¬ (8 ≤ k ∧ k ≤ 13) → mx_i h17 381 k = mx_i h 381 k := fun k hk => by
      rw [u17.2.2 k (by omega) (by omega), a1.2.2 k hk, mxU_i w1.1 (by decide), jm 381 (by decide) (by decide) (by omega) (by omega)]
    have K31 : mxK hm h31 := mxK_tr (mxK_tr (mxK_tr (mxK_tr (mxU_K w1.1) a1.1) u17.1) (by rw [e21]; exact mxK_wi)) (mxU_K w2.1)
    refine ⟨0, rfl, ?_, ?_, vn, vd, vr, vq, np, ns, nl, ?_⟩
    · rw [mxU_i w2.1 (by decide), t21]
      rcases ft with ⟨rfl, rfl⟩ | ⟨rfl, rfl⟩
      · exact ⟨rfl, by decide⟩
      · exact ⟨rfl, by decide⟩
    · refine ⟨?_, ?_⟩
      · rw [K31.2.1, hmd.2.1]; show mx_x h19 + 1 ≤ _; rw [e19]; show mx_x h14 + 1 ≤ _; rw [q14.1]; omega
      · rw [K31.2.2.1, hmd.2.2.1]; show mx_n h19 + 6 ≤ _; rw [e19]; show mx_n h14 + 6 ≤ _; rw [q14.2]; omega
    · refine Inv_bad I ?_ (fun b hb => ?_) (fun b hb hb2 => ?_) (fun j hj => ?_) ?_ ?_ ?_ ?_ ?_
      · rw [K31.1, hmd.1]; show mx_c h19 = _; rw [e19]; exact c14
      · rw [K31.2.2.2.1, hmd.2.2.2.2]; show mx_r h19 b = _; rw [r19]; exact r14 b hb
      · unfold scr at hb
        by_cases q : b = 382
        · rw [q, m31]
        · rw [i31 b (by omega) q (by omega), jm b hb2 (by omega) (by omega) (by omega)]
      · rw [i31 100 (by decide) (by decide) (by decide), im, e19, wi_ne (by decide), wi_nj hj, i14 100 (by decide) (by omega) (by omega)]
      · rw [j31 3 (by decide), j17 3 (by omega)]
      · rw [j31 6 (by decide), j17 6 (by omega)]
      · rw [i31 100 (by decide) (by decide) (by decide), im, e19, wi_ne (by decide), wi_at rfl rfl, j31 12 (by decide), ef]
      · rw [i31 101 (by decide) (by decide) (by decide), im, e19, wi_at rfl rfl]
      · rw [j31 8 (by decide), u17.2.2 8 (by decide) (by decide)]; exact a5
  match hp : vAll T n (mx_i h 382) np ns, o with
  | .inl e, o =>
    obtain ⟨rfl, p, Cp, ep⟩ := o
    have he := vAll_e wk0 hp
    refine ⟨fun _ => V93_ob Cp, fun h19 e19 => ⟨fun _ => ?_, fun q => absurd rfl q⟩⟩
    rw [if_pos rfl, V94_i Cp, ep] at e19
    refine no h19 0 e 1 (nI e) e19 (fun _ _ => trivial) (.inl ⟨rfl, rfl⟩) (fun h17 v20 kr o ev => ?_)
    rw [hp] at o
    have o : mx_i h17 381 12 = nI e := o
    rw [o, if_neg (nI_ne1 (by omega))] at ev
    exact ⟨ev, o⟩
  | .inr (r', np', ns'), o =>
    obtain ⟨rfl, V14⟩ := o
    have kr0 := vAll_k wk0 hp
    refine ⟨fun q => absurd q (by decide), fun h19 e19 => ⟨fun q => absurd q (by decide), fun _ => ?_⟩⟩
    rw [if_neg (by decide)] at e19
    have i19 : ∀ b, b ≠ 100 → b ≠ 101 → mx_i h19 b = mx_i h14 b := fun b b1 b2 => by rw [e19, wi_ne b2, wi_ne b1]
    have t19 : mx_i h19 vn 8 = mx_i h 382 0 := by
      rw [i19 vn (by omega) (by omega), i14 vn (by omega) (by omega) (by omega)]; exact C_texts C
    rw [t19]
    refine ⟨fun c h26 e26 h30 e30 h34 e34 h39 e39 => ?_, fun c => ?_⟩
    · -- told
      have ne12 : ¬ mx_i h 382 0 = 12 := by intro q; rw [q] at c; exact absurd c (by decide)
      have tr : isR (mx_i h 382 0 + 1) 0 12 := ⟨by have := tx.1; have := tx.2; grind, by have := tx.1; grind⟩
      have x19 : mx_i h19 vd 8 = mx_i h 382 0 := by
        rw [i19 vd (by omega) (by omega), show mx_i h14 vd 8 = r' 0 from C_texts V14]
        exact kr0 0 (by omega)
      rw [x19] at e26
      have S19 : mxS h19 vn vd vr vq := by rw [e19]; exact mxK_S (mxK_tr mxK_wi mxK_wi) S14
      have G19 : mxG h19 := by rw [e19]; exact mxG_wi (mxG_wi G14)
      have S26 : mxS h26 vn vd vr vq := by rw [e26]; exact mxK_S mxK_wi S19
      have G26 : mxG h26 := by rw [e26]; exact mxG_wi G19
      have S34 := mxS_sw45 e30 e34 S26
      have G39 : mxG h39 := by
        rw [e39]
        refine mxG_wi ?_
        rw [e34, e30]
        exact mxG_wr_9_5 (mxG_wr_9_4 G26)
      have S39 : mxS h39 vd vn vr vq := by rw [e39]; exact mxK_S mxK_wi S34
      have i34 : mx_i h34 = mx_i h26 := by rw [e34, e30]; rfl
      have i39 : ∀ b, b ≠ 100 → b ≠ vd → mx_i h39 b = mx_i h19 b := fun b b1 b2 => by rw [e39, wi_ne b1, i34, e26, wi_ne b2]
      have a39 : mx_i h39 vd 8 = mx_i h 382 0 + 1 := by rw [e39, wi_ne (by omega), i34, e26, wi_at rfl rfl]
      have V19 : CpN (vw h19 vd) r' np' ns' nl := CpN_congr (fun k j hk => by
        show mx_i h19 (vd + k) j = mx_i h14 (vd + k) j
        rw [i19 _ (by omega) (by omega)]) (fun _ _ _ _ => rfl) V14
      have V39 : CpN (vw h39 vd) (rs r' 0 (mx_i h 382 0 + 1)) np' ns' nl := by
        have e := vw_wi (h := h19) (a := vd) (k := 0) (j := 8) (w := mx_i h 382 0 + 1)
        rw [show vd + 0 = vd from rfl, ← e26] at e
        have : CpN (vw h26 vd) (rs r' 0 (mx_i h 382 0 + 1)) np' ns' nl := by rw [e]; exact CpN_tx V19 tr
        exact CpN_congr (fun k j hk => by
          show mx_i h39 (vd + k) j = mx_i h26 (vd + k) j
          rw [e39, wi_ne (by omega), i34]) (fun _ _ _ _ => rfl) this
      intro hm hmd
      have im : mx_i hm = mx_i h39 := hmd.2.2.2.1
      have Gm := agr_G (P := fun _ => False) (agr_mdl hmd) G39
      have jm : ∀ b, b ≠ 100 → b ≠ 101 → ¬ (103 ≤ b ∧ b ≤ 105) → ¬ (vd ≤ b ∧ b ≤ vd + 15) → mx_i hm b = mx_i h b := fun b b0 b1 b2 b3 => by rw [im, i39 b b0 (by omega), i19 b b0 b1, i14 b b1 b2 b3]
      have i100 : ∀ j, j ≠ 13 → j ≠ 14 → mx_i hm 100 j = mx_i h 100 j := fun j c1 c2 => by
        rw [im, e39, wi_nj c1, i34, e26, wi_ne (by omega), e19, wi_ne (by decide), wi_nj c2, i14 100 (by decide) (by omega) (by omega)]
      refine ref hm _ Gm (jm 381 (by decide) (by decide) (by omega) (by omega)) (jm 382 (by decide) (by decide) (by omega) (by omega)) (jm 386 (by decide) (by decide) (by omega) (by omega)) (fun h5 h17 e5 u17 m5 kr o v20 e20 h21 e21 => ?_)
      rw [hp] at o
      obtain ⟨o1, o2⟩ := o
      have r0 : mx_i h17 382 0 = mx_i h 382 0 := kr 0 (by omega)
      rw [if_pos o2, r0, if_neg ne12] at e20
      subst e20
      have t21 : mx_i h21 381 0 = 0 := by rw [e21, thr0]
      rw [t21]
      refine ⟨fun q => absurd q (by decide), fun _ h25 e25 h28 e28 => ?_⟩
      have m21 : mx_i h21 382 = r' := by rw [e21, wi_ne (by decide)]; exact o1
      have rr0 : r' 0 = mx_i h 382 0 := kr0 0 (by omega)
      rw [m21, rr0] at e25
      have m28 : mx_i h28 382 = rs r' 0 (mx_i h 382 0 + 1) := by rw [e28, wi_ne (by decide), e25, m_wi, m21]
      have w1 := W225_p (h := hm)
      obtain ⟨a1, a2, a3, a4, a5, a6, a7⟩ := W223_p (h := W_225 hm)
      rw [← e5] at a1 a2 a3 a4 a5 a6 a7
      have i28 : ∀ b, b ≠ 381 → b ≠ 382 → b ≠ 384 → mx_i h28 b = mx_i hm b := fun b b1 b2 b3 => by
        rw [e28, wi_ne b1, e25, wi_ne b2, e21, wi_ne b1, u17.2.1 b b1 b2, a1.2.1 b b1, mxU_i w1.1 b3]
      have j28 : ∀ k, k ≠ 0 → k ≠ 6 → mx_i h28 381 k = mx_i h17 381 k := fun k k0 k6 => by rw [e28, wi_nj k6, e25, wi_ne (by decide), e21, wi_nj k0]
      have j17 : ∀ k, ¬ (8 ≤ k ∧ k ≤ 13) → mx_i h17 381 k = mx_i h 381 k := fun k hk => by
        rw [u17.2.2 k (by omega) (by omega), a1.2.2 k hk, mxU_i w1.1 (by decide), jm 381 (by decide) (by decide) (by omega) (by omega)]
      have K28 : mxK hm h28 := mxK_tr (mxK_tr (mxK_tr (mxU_K w1.1) a1.1) u17.1) (by rw [e28, e25, e21]; exact mxK_tr (mxK_tr mxK_wi mxK_wi) mxK_wi)
      refine ⟨_, rfl, ⟨?_, ?_⟩, ?_, vd, vn, vr, vq, np', ns', nl, ?_⟩
      · rw [e28, wi_nj (by decide), e25, wi_ne (by decide)]; exact t21
      · rw [a39, m28, rs_at]
      · refine bud_bq (bq_tr q14 (bq_tr (h1 := h39) ?_ (bq_tr (bq_mdl hmd) (bq_K K28))))
        rw [e39, e34, e30, e26, e19]
        exact ⟨rfl, rfl⟩
      · refine ⟨mxK_G K28 Gm, ?_, ?_, ⟨W, ?_, ?_⟩, TpN_0 ?_ ?_, ?_, ?_, ?_⟩
        · refine mxS_of ?_ S39
          rw [K28.2.2.2.1, hmd.2.2.2.2]
        · rw [m28]
          exact CpN_congr (fun k j hk => by
            show mx_i h28 (vd + k) j = mx_i h39 (vd + k) j
            unfold inV at hk
            rw [i28 _ (by omega) (by omega) (by omega), im]) (fun _ _ _ _ => rfl) V39
        · exact LC_congr (fun k j hk => by
            show mx_i h28 (vr + k) j = mx_i h (vr + k) j
            unfold inL at hk
            rw [i28 _ (by omega) (by omega) (by omega), jm _ (by omega) (by omega) (by omega) (by omega)]) LC0
        · exact LR_congr (fun k hk => by
            rw [m28, rs_ne (by omega)]
            exact kr0 k (by omega)) LR0
        · rw [i28 101 (by decide) (by decide) (by decide), im, i39 101 (by decide) (by omega), e19, wi_at rfl rfl]
        · rw [j28 8 (by decide) (by decide), u17.2.2 8 (by decide) (by decide)]; exact a5
        · rw [i28 100 (by decide) (by decide) (by decide), j28 12 (by decide) (by decide), o2, im, e39, wi_nj (by decide), i34, e26, wi_ne (by omega), e19, wi_ne (by decide), wi_at rfl rfl]
        · obtain ⟨f, c, g1, g2, g3, g4, g5, g6⟩ := I.2.2.2.2.2.2.1
          refine ⟨f, 0, g1, by omega, ?_, ?_, ?_, fun i hi => by omega⟩
          · rw [i28 100 (by decide) (by decide) (by decide), i100 12 (by decide) (by decide)]; exact g3
          · rw [i28 100 (by decide) (by decide) (by decide), im, e39, wi_at rfl rfl]; rfl
          · rw [e28, wi_at rfl rfl]; rfl
        · have U : agr (fun b => ¬ (165 ≤ b ∧ b < 188) ∧ b ≠ 383) h (ints h h28) := ⟨rfl, fun _ _ => rfl, fun b hb => by
            show mx_i h28 b = _
            have hb : (165 ≤ b ∧ b < 188) ∨ b = 383 := by omega
            rw [i28 b (by omega) (by omega) (by omega), jm b (by omega) (by omega) (by omega) (by omega)]⟩
          refine KpN_i (h := ints h h28) rfl (K_agr LWd_ok U (fun b c1 c2 => by omega) (by omega) ?_ ?_ I.2.2.2.2.2.2.2)
          · show mx_i h28 100 10 = _
            rw [i28 100 (by decide) (by decide) (by decide), i100 10 (by decide) (by decide)]
          · show mx_i h28 381 3 = _
            rw [j28 3 (by decide) (by decide), j17 3 (by omega)]
    · -- there are 12 texts
      have e12 : mx_i h 382 0 = 12 := by have := tx.2; grind
      refine no h19 1 0 2 (-1) e19 (fun _ _ => trivial) (.inr ⟨rfl, rfl⟩) (fun h17 v20 kr o ev => ?_)
      rw [hp] at o
      obtain ⟨o1, o2⟩ := o
      have r0 : mx_i h17 382 0 = mx_i h 382 0 := kr 0 (by omega)
      rw [if_pos o2, r0, if_pos e12] at ev
      exact ⟨ev, o2⟩
