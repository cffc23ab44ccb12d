/-! OPS D: the law is told -/
theorem isR_of {x a b : Int32} (h1 : ¬ x < a) (h2 : ¬ b < x) : isR x a b := ⟨Int32.not_lt.mp h1, Int32.not_lt.mp h2⟩
section
variable {T : Nat → Int32} {n : Nat}
theorem pLine_b {p q : Nat} {L : LL} (h : pLine T n p = .inr (L, q)) : isR L.2.1 0 99 := by
  unfold pLine at h
  split at h
  · cases h
  · rename_i v q1 hk
    split at h
    · rename_i c
      have r : isR (numN T n q1) 0 99 := isR_of c.2.2.1 c.2.2.2
      split at h
      · split at h
        · cases h
        · cases h; exact r
      · cases h; exact r
    · cases h
theorem pLs_b (hn : n ≤ 400) : ∀ (j p : Nat) (M : List LL), p ≤ n → pLs T n j p = .inr M → M.length ≤ j ∧ (cdL M).length + p ≤ n ∧ Lb M := by
  intro j
  induction j with
  | zero => intro p M _ h; cases h
  | succ j ih =>
    intro p M hp h
    unfold pLs at h
    split at h
    · cases h
    · rename_i L q hl
      have lp := pLine_pr hn hp hl
      have lb := pLine_b hl
      have gq := sk_ge (T := T) (n := n) q
      split at h
      · rename_i lt
        split at h
        · split at h
          · cases h
          · rename_i M' hM
            cases h
            obtain ⟨a, b, c⟩ := ih _ _ (by omega) hM
            refine ⟨by rw [List.length_cons]; omega, ?_, ?_⟩
            · show (L.2.2 ++ cdL M').length + p ≤ n
              rw [List.length_append]; omega
            · intro K hK
              rcases List.mem_cons.mp hK with rfl | hK
              · exact lb
              · exact c K hK
        · cases h
      · cases h
        refine ⟨by simp, ?_, ?_⟩
        · show (L.2.2 ++ []).length + p ≤ n
          rw [List.append_nil]; omega
        · intro K hK
          rcases List.mem_cons.mp hK with rfl | hK
          · exact lb
          · cases hK
theorem pLaw_b (hn : n ≤ 400) {M : List LL} (h : pLaw T n = .inr M) : M.length ≤ 12 ∧ (cdL M).length ≤ 400 ∧ Lb M := by
  unfold pLaw at h
  split at h
  · have := pLs_b hn _ _ _ (Nat.zero_le _) h
    exact ⟨this.1, by omega, this.2.2⟩
  · cases h
    exact ⟨by simp, by simp [cdL], fun L hL => by cases hL⟩
theorem pLs_e (hn : n ≤ 400) : ∀ (j p e : Nat), p ≤ n → pLs T n j p = .inl e → e ≤ n := by
  intro j
  induction j with
  | zero => intro p e hp h; cases h; exact sk_le hp
  | succ j ih =>
    intro p e hp h
    unfold pLs at h
    split at h
    · rename_i e' hl
      cases h
      unfold pLine at hl
      split at hl
      · rename_i e2 hk
        cases hl
        unfold pKd at hk
        repeat' split at hk
        all_goals first | (cases hk; exact sk_le hp) | cases hk
      · rename_i v q hk
        have kp := pKd_pr hk
        split at hl
        · split at hl
          · rename_i w
            have w := wrd_in (by decide) w
            split at hl
            · rename_i e2 hc
              cases hl
              exact pX_e hn _ _ _ _ _ _ w.2 (by rw [cnd_x hn w.2, hc])
            · cases hl
          · cases hl
        · cases hl; exact sk_le kp.2
    · rename_i L q hl
      have lp := pLine_pr hn hp hl
      split at h
      · rename_i lt
        split at h
        · split at h
          · rename_i e2 hM
            cases h
            exact ih _ _ (by omega) hM
          · cases h
        · cases h; omega
      · cases h
theorem pLaw_e (hn : n ≤ 400) {e : Nat} (h : pLaw T n = .inl e) : e ≤ n := by
  unfold pLaw at h
  split at h
  · exact pLs_e hn _ _ _ (Nat.zero_le _) h
  · cases h
end
/-- the ints of one heap, all else of another -/
def ints (h h' : mxH) : mxH := (h.1, h.2.1, h.2.2.1, mx_i h', mx_r h, mx_l h)
theorem KpN_i {LW : mxLW} {h h1 : mxH} (e : mx_i h1 = mx_i h) (K : KpN LW h) : KpN LW h1 := by
  unfold KpN vw lw at *
  rw [e]; exact K
theorem RmN_i {h h1 : mxH} (e : mx_i h1 = mx_i h) (R : RmN h) : RmN h1 := by
  unfold RmN vw at *
  rw [e]; exact R
/-- the text that lies on the tape -/
theorem Tp_T {h : mxH} (t : TpN h) : ∃ (T : Nat → Int32) (n : Nat), Tx h T n ∧ mx_i h 101 1 = nI n ∧ mx_i h 381 8 = nI n ∧ ∀ k, k < n → mx_i h 386 k = T k := by
  obtain ⟨n, a1, a2, a3, a4⟩ := t
  refine ⟨fun k => if k < n then mx_i h 386 k else 0, n, ⟨a1, fun k hk => if_neg (by omega), fun k => ?_, fun k hk => ?_⟩, a2, a3, fun k hk => (if_pos hk).symm⟩
  · by_cases c : k < n
    · show isR (if k < n then mx_i h 386 k else 0) 0 255
      rw [if_pos c]; exact (a4 k c).1
    · show isR (if k < n then mx_i h 386 k else 0) 0 255
      rw [if_neg c]; exact ⟨by decide, by decide⟩
  · show _ = (if k < n then mx_i h 386 k else 0).toInt8.toInt32
    rw [if_pos hk]; exact (a4 k hk).2
theorem TpN_0 {h : mxH} (e1 : mx_i h 101 1 = 0) (e8 : mx_i h 381 8 = 0) : TpN h := ⟨0, by omega, e1, e8, fun k hk => by omega⟩
/-- only cell 381 is written, at 8 to 13 -/
def frA' (h h1 : mxH) : Prop := mxK h h1 ∧ (∀ b, b ≠ 381 → mx_i h1 b = mx_i h b) ∧ ∀ k, ¬ (8 ≤ k ∧ k ≤ 13) → mx_i h1 381 k = mx_i h 381 k
theorem W223_p {h : mxH} : frA' h (W_223 h) ∧ mx_i (W_223 h) 381 12 = -1 ∧ mx_i (W_223 h) 381 9 = -1 ∧ mx_i (W_223 h) 381 10 = mx_i h 381 8 ∧ mx_i (W_223 h) 381 8 = 0 ∧ mx_i (W_223 h) 381 11 = 0 ∧ mx_i (W_223 h) 381 13 = 0 := by
  unfold W_223
  refine ⟨⟨⟨rfl, rfl, rfl, rfl, rfl⟩, fun b hb => ?_, fun k hk => ?_⟩, ?_, ?_, ?_, ?_, ?_, ?_⟩
  · rw [wi_ne hb, wi_ne hb, wi_ne hb, wi_ne hb, wi_ne hb, wi_ne hb]
  · rw [wi_nj (by omega), wi_nj (by omega), wi_nj (by omega), wi_nj (by omega), wi_nj (by omega), wi_nj (by omega)]
  · rw [wi_nj (by decide), wi_nj (by decide), wi_nj (by decide), wi_nj (by decide), wi_nj (by decide), wi_at rfl rfl]
  · rw [wi_nj (by decide), wi_nj (by decide), wi_nj (by decide), wi_nj (by decide), wi_at rfl rfl]
  · rw [wi_nj (by decide), wi_nj (by decide), wi_nj (by decide), wi_at rfl rfl, wi_nj (by decide), wi_nj (by decide)]
  · rw [wi_nj (by decide), wi_nj (by decide), wi_at rfl rfl]
  · rw [wi_nj (by decide), wi_at rfl rfl]
  · rw [wi_at rfl rfl]
/-- a text was wrong: only the draft, the tape and the fault are changed -/
theorem Inv_bad {h h2 : mxH} {vn vd vr vq np ns nl : Nat} (I : Inv LWd h vn vd vr vq np ns nl) (c : mx_c h2 = mx_c h) (rr : ∀ b, b ≠ 106 → mx_r h2 b = mx_r h b) (e : ∀ b, ¬ scr vd vr vq b → b ≠ 100 → mx_i h2 b = mx_i h b) (e100 : ∀ j, j ≠ 14 → mx_i h2 100 j = mx_i h 100 j) (e3 : mx_i h2 381 3 = mx_i h 381 3) (e6 : mx_i h2 381 6 = mx_i h 381 6) (f : mx_i h2 100 14 = mx_i h2 381 12) (t1 : mx_i h2 101 1 = 0) (t8 : mx_i h2 381 8 = 0) : Inv LWd h2 vn vd vr vq np ns nl := by
  obtain ⟨G, S, C, W, T, F, R, K⟩ := I
  have a := S.2.2.2.2.1
  have b := S.2.2.2.2.2.1
  have U : agr (fun b => scr vd vr vq b ∨ b = 100) h h2 := ⟨c, rr, fun b hb => e b (fun q => hb (.inl q)) (fun q => hb (.inr q))⟩
  have m : mx_i h2 382 = mx_i h 382 := e 382 (by unfold scr; omega) (by decide)
  refine ⟨agr_G U G, agr_S U S, ?_, ?_, TpN_0 t1 t8, f, ?_, ?_⟩
  · rw [m]
    exact CpN_congr (fun k j hk => by
      show mx_i h2 (vn + k) j = mx_i h (vn + k) j
      rw [e _ (by unfold scr; unfold inV at hk; omega) (by unfold inV at hk; omega)]) (fun _ _ _ _ => rfl) C
  · exact W_agr LWd_ok U (fun b b1 b2 q => by unfold scr at q; omega) (fun k _ => by rw [m]) W
  · exact R_agr U (fun b b1 b2 q => by unfold scr at q; omega) (fun q => by unfold scr at q; omega) (e100 12 (by decide)) (e100 13 (by decide)) e6 (by rw [m]) (by rw [m]) R
  · exact K_agr LWd_ok U (fun b b1 b2 q => by unfold scr at q; omega) (fun q => by unfold scr at q; omega) (e100 10 (by decide)) e3 K
theorem H235 {d n : Nat} {h0 : mxH} {Q : mxO → mxH → Prop} {i1 : Int32} {r : Nat → Int32} (hn : n ≤ 400) (fin : ∀ h1, mxK h0 h1 → (∀ b, b ≠ 382 → mx_i h1 b = mx_i h0 b) → (∀ k, mx_i h1 382 k = if 369 ≤ k ∧ k < 369 + n then mx_i h0 386 (k - 369) else r k) → Q (.inl (some (.int i1))) (mx_wi h1 381 6 0)) (e10 : mx_i h0 381 10 = nI n) : ∀ (m i : Nat) (h : mxH), m + i = n → mxG h → mxK h0 h → (∀ b, b ≠ 382 → mx_i h b = mx_i h0 b) → (∀ k, mx_i h 382 k = if 369 ≤ k ∧ k < 369 + i then mx_i h0 386 (k - 369) else r k) → H_235_33 (d + 33) h i1 (nI i) Q := by
  intro m
  induction m with
  | zero =>
    intro i h hm G K U e
    have hi : i = n := by omega
    subst hi
    refine tr_235_33 G ⟨fun c => ?_, fun _ h2 e2 => by rw [e2]; exact fin h K U e⟩
    rw [U 381 (by decide), e10] at c
    exact absurd c Int32.lt_irrefl
  | succ m ih =>
    intro i h hm G K U e
    have hin : i < n := by omega
    have e369 : (369 : Int32) + nI i = nI (369 + i) := by rw [show (369 : Int32) = nI 369 from rfl, nI_add]
    refine tr_235_33 G ⟨fun _ => ⟨vp_in_nI (by omega) (by decide), by rw [e369]; exact vp_in_nI (by omega) (by decide), fun h7 e7 => ?_⟩, fun c => absurd (by rw [U 381 (by decide), e10]; exact nI_lt hin (by omega)) c⟩
    rw [e369, nI_clamp (by omega), nI_clamp (by omega), U 386 (by decide)] at e7
    rw [nI_1]
    refine ih (i + 1) h7 (by omega) (by rw [e7]; exact mxG_wi G) (mxK_tr K (by rw [e7]; exact mxK_wi)) (fun b hb => by rw [e7, wi_ne hb]; exact U b hb) (fun k => ?_)
    rw [e7, wi_row]
    by_cases c : k = 369 + i
    · rw [if_pos c, if_pos (by omega), show k - 369 = i by omega]
    · rw [if_neg c, e k]
      by_cases q : 369 ≤ k ∧ k < 369 + i
      · rw [if_pos q, if_pos (by omega)]
      · rw [if_neg q, if_neg (by omega)]
theorem op_law : OpF LWd 135 235 [] (fun k => if k = 0 then 1 else 0) := by
  intro h vn vd vr vq np ns nl I fc
  have S := I.2.1
  have C := I.2.2.1
  have sa := S.2.2.2.2.1
  have sb := S.2.2.2.2.2.1
  obtain ⟨T, n, X, x1, x8, xt⟩ := Tp_T I.2.2.2.2.1
  have hn := X.1
  refine tr_135_0 I.1 S ⟨⟨T, n, X, x1⟩, fun h3 u3 => ?_⟩
  have C3 := u3.2 T n X x1
  refine ⟨⟨T, n, C3⟩, fun x8' h9 u9 => ?_⟩
  have o := u9.2 T n C3
  obtain ⟨f88, -⟩ := u3
  obtain ⟨u9, -⟩ := u9
  -- all that the class has changed so far
  have i9 : ∀ b, b ≠ 101 → ¬ (103 ≤ b ∧ b ≤ 108) → ¬ (vq ≤ b ∧ b ≤ vq + 4) → mx_i h9 b = mx_i h b := fun b b1 b2 b3 => by
    rw [mxU_i u9.1 (by omega), f88.1.2.2 b (by omega)]
  have r9 : ∀ b, b ≠ 106 → mx_r h9 b = mx_r h b := fun b hb => by rw [u9.1.2.2.2.1]; exact f88.1.2.1 b hb
  have c9 : mx_c h9 = mx_c h := u9.1.1.trans f88.1.1
  have q9 : bq h h9 := ⟨u9.1.2.1.trans f88.2.1.1, u9.1.2.2.1.trans f88.2.1.2.1⟩
  have G9 := mxU_G u9.1 (agr_G f88.1 I.1)
  have S9 : mxS h9 vn vd vr vq := mxU_S u9.1 (agr_S f88.1 S)
  have a4 : ∀ p, Cl h9 T n p → vp_in (mx_i h9 101 3) 401 := fun p C => V93_ob C
  -- the reference, from the end of the class's call
  have ref : ∀ (hm : mxH) (Q : mxO → mxH → Prop), mxG hm → mx_i hm 381 = mx_i h 381 → mx_i hm 386 = mx_i h 386 → (∀ x11 h12, frA (W_223 hm) h12 → outS (Fh (W_223 hm)) (W_223 hm) 0 (pLaw T n) x11 h12 → (∀ v15, v15 = (if mx_i h12 381 12 = -1 then 0 else 1) → ∀ h16, h16 = mx_wi h12 381 0 v15 → ((0 < (mx_i h16 381 0) → Q (.inl (some (.int 0))) h16) ∧ (¬ 0 < (mx_i h16 381 0) → (∀ h20, h20 = mx_wi h16 382 1 x11 → (∀ h23, h23 = mx_wi h20 382 2 (mx_i h20 381 10) → H_235_33 500 h23 x11 0 Q)))))) → mx_wp 500 235 0 (mx_fr 235 [.ref 381]) [] hm Q := by
    intro hm Q Gm e381 e386 kk
    obtain ⟨w1, w2, w3, w4, w5, w6, w7⟩ := W223_p (h := hm)
    have R1 : Rd (W_223 hm) T n 0 := ⟨hn, Nat.zero_le _, by rw [w4, e381]; exact x8, w6, X.2.1, .inl ⟨w3, fun k hk => by rw [w1.2.1 386 (by decide), e386]; exact xt k hk⟩⟩
    have fcm : fc01 (W_223 hm) := by
      unfold fc01
      rw [w1.2.2 15 (by omega), w1.2.2 16 (by omega), e381]
      exact fc
    refine tr_235_0 (d := 467) Gm (fun h1 e1 => ?_)
    subst e1
    refine ⟨by decide, ⟨T, n, 0, R1⟩, w6, w2, fcm, w7, fun x11 h12 u12 v15 e15 h16 e16 => ?_⟩
    exact kk x11 h12 u12.1 (u12.2 T n R1) v15 e15 h16 e16
  match hp : pLaw T n, o with
  | .inl e, o =>
    obtain ⟨rfl, p, Cp, ep⟩ := o
    have he := pLaw_e hn hp
    refine ⟨fun _ => a4 p Cp, fun h14 e14 => ⟨fun _ hm hmd => ?_, fun q => absurd rfl q⟩⟩
    rw [if_pos rfl, V94_i Cp, ep] at e14
    have i14 : ∀ b, b ≠ 100 → b ≠ 101 → mx_i h14 b = mx_i h9 b := fun b b1 b2 => by rw [e14, wi_ne b2, wi_ne b1]
    have im : mx_i hm = mx_i h14 := hmd.2.2.2.1
    have r14 : mx_r h14 = mx_r h9 := by rw [e14]; rfl
    refine ref hm _ (agr_G (P := fun _ => False) (agr_mdl hmd) (mxG_ex (by rw [e14]; exact mxG_wi (mxG_wi G9)))) (by rw [im, i14 381 (by decide) (by decide), i9 381 (by decide) (by omega) (by omega)]) (by rw [im, i14 386 (by decide) (by decide), i9 386 (by decide) (by omega) (by omega)]) (fun x11 h12 u12 o12 v15 e15 h16 e16 => ?_)
    rw [hp] at o12
    have o12 : mx_i h12 381 12 = nI e := o12
    obtain ⟨w1, w2, w3, w4, w5, w6, w7⟩ := W223_p (h := hm)
    rw [o12, if_neg (nI_ne1 (by omega))] at e15
    subst e15
    have t16 : mx_i h16 381 0 = 1 := by rw [e16, thr0]
    rw [t16]
    refine ⟨fun _ => ⟨0, rfl, ?_, ?_, vn, vd, vr, vq, np, ns, nl, ?_⟩, fun q => absurd (by decide) q⟩
    · exact ⟨rfl, by decide⟩
    · have : bq h h14 := bq_tr q9 (by rw [e14]; exact ⟨rfl, rfl⟩)
      have q2 : bq hm h16 := bq_tr (bq_tr (bq_K w1.1) (bq_K u12.1)) (bq_wi' e16)
      have := bud_ex hmd
      refine ⟨?_, ?_⟩
      · rw [q2.1, hmd.2.1]; show mx_x h14 + 1 ≤ _; rw [e14]; show mx_x h9 + 1 ≤ _; rw [q9.1]; omega
      · rw [q2.2, hmd.2.2.1]; show mx_n h14 + 6 ≤ _; rw [e14]; show mx_n h9 + 6 ≤ _; rw [q9.2]; omega
    · have i16 : ∀ b, b ≠ 381 → mx_i h16 b = mx_i h14 b := fun b hb => by
        rw [e16, wi_ne hb]
        funext j
        rw [u12.2 b j (by omega), w1.2.1 b hb, im]
      have j16 : ∀ k, k ≠ 0 → ¬ (8 ≤ k ∧ k ≤ 13) → k < 17 → mx_i h16 381 k = mx_i h 381 k := fun k k0 k1 k2 => by
        rw [e16, wi_nj k0, u12.2 381 k (by omega), w1.2.2 k k1, im, i14 381 (by decide) (by decide), i9 381 (by decide) (by omega) (by omega)]
      refine Inv_bad I ?_ (fun b hb => ?_) (fun b hb hb2 => ?_) (fun j hj => ?_) (j16 3 (by decide) (by omega) (by decide)) (j16 6 (by decide) (by omega) (by decide)) ?_ ?_ ?_
      · rw [e16]; show mx_c h12 = _; rw [u12.1.1, w1.1.1, hmd.1]; show mx_c h14 = _; rw [e14]; exact c9
      · rw [e16]; show mx_r h12 b = _; rw [u12.1.2.2.2.1, w1.1.2.2.2.1, hmd.2.2.2.2]; show mx_r h14 b = _; rw [r14]; exact r9 b hb
      · unfold scr at hb
        rw [i16 b (by omega), i14 b hb2 (by omega), i9 b (by omega) (by omega) (by omega)]
      · rw [i16 100 (by decide), e14, wi_ne (by decide), wi_nj hj, i9 100 (by decide) (by omega) (by omega)]
      · rw [i16 100 (by decide), e14, wi_ne (by decide), wi_at rfl rfl, e16, wi_nj (by decide), o12]
      · rw [i16 101 (by decide), e14, wi_at rfl rfl]
      · rw [e16, wi_nj (by decide), u12.2 381 8 (by omega)]; exact w5
  | .inr M, o =>
    obtain ⟨rfl, LM, L1, p, Cp⟩ := o
    obtain ⟨b1, b2, b3⟩ := pLaw_b hn hp
    refine ⟨fun q => absurd q (by decide), fun h14 e14 => ⟨fun q => absurd q (by decide), fun _ h20 e20 h24 e24 h29 e29 => ?_⟩⟩
    rw [if_neg (by decide)] at e14
    have i14 : ∀ b, b ≠ 100 → b ≠ 101 → mx_i h14 b = mx_i h9 b := fun b b1 b2 => by rw [e14, wi_ne b2, wi_ne b1]
    have S14 : mxS h14 vn vd vr vq := by rw [e14]; exact mxK_S (mxK_tr mxK_wi mxK_wi) S9
    have G14 : mxG h14 := by rw [e14]; exact mxG_wi (mxG_wi G9)
    have S24 := mxS_sw67 e20 e24 S14
    have G29 : mxG h29 := by
      rw [e29]
      refine mxG_wi ?_
      rw [e24, e20]
      exact mxG_wr_9_7 (mxG_wr_9_6 G14)
    have i24 : mx_i h24 = mx_i h14 := by rw [e24, e20]; rfl
    have i29 : ∀ b, b ≠ 100 → mx_i h29 b = mx_i h14 b := fun b hb => by rw [e29, wi_ne hb, i24]
    have e1 : mx_i h29 vq 1 = nI M.length := by
      rw [i29 vq (by omega), i14 vq (by omega) (by omega)]; exact LM.1
    intro hm hmd
    have im : mx_i hm = mx_i h29 := hmd.2.2.2.1
    have k381 : mx_i hm 381 = mx_i h 381 := by rw [im, i29 381 (by decide), i14 381 (by decide) (by decide), i9 381 (by decide) (by omega) (by omega)]
    have k382 : mx_i hm 382 = mx_i h 382 := by rw [im, i29 382 (by decide), i14 382 (by decide) (by decide), i9 382 (by decide) (by omega) (by omega)]
    have k386 : mx_i hm 386 = mx_i h 386 := by rw [im, i29 386 (by decide), i14 386 (by decide) (by decide), i9 386 (by decide) (by omega) (by omega)]
    have Gm := agr_G (P := fun _ => False) (agr_mdl hmd) G29
    refine ref hm _ Gm k381 k386 (fun x11 h12 u12 o12 v15 e15 h16 e16 => ?_)
    rw [hp] at o12
    obtain ⟨o1, o2, -⟩ := o12
    rw [Nat.zero_add] at o1
    obtain ⟨w1, w2, w3, w4, w5, w6, w7⟩ := W223_p (h := hm)
    rw [if_pos o2] at e15
    subst e15
    have t16 : mx_i h16 381 0 = 0 := by rw [e16, thr0]
    rw [t16]
    refine ⟨fun q => absurd q (by decide), fun _ h20' e20' h23 e23 => ?_⟩
    have i16 : ∀ b, b ≠ 381 → mx_i h16 b = mx_i hm b := fun b hb => by
      rw [e16, wi_ne hb]
      funext j
      rw [u12.2 b j (by omega), w1.2.1 b hb]
    have t10 : mx_i h16 381 10 = nI n := by rw [e16, wi_nj (by decide), u12.2 381 10 (by omega), w4, k381]; exact x8
    have e10 : mx_i h20' 381 10 = nI n := by rw [e20', wi_ne (by decide)]; exact t10
    rw [e10] at e23
    have K23 : mxK hm h23 := by
      rw [e23, e20']
      exact mxK_tr (mxK_tr (mxK_tr (mxK_tr w1.1 u12.1) (by rw [e16]; exact mxK_wi)) mxK_wi) mxK_wi
    have i23 : ∀ b, b ≠ 381 → b ≠ 382 → mx_i h23 b = mx_i hm b := fun b b1 b2 => by rw [e23, wi_ne b2, e20', wi_ne b2, i16 b b1]
    have j23 : mx_i h23 381 = mx_i h16 381 := by rw [e23, wi_ne (by decide), e20', wi_ne (by decide)]
    have G23 : mxG h23 := mxK_G K23 Gm
    refine H235 (n := n) (h0 := h23) (r := mx_i h23 382) hn (fun h1 K1 U1 m1 => ?_) (by rw [j23]; exact t10) n 0 h23 rfl G23 mxK_rfl (fun _ _ => rfl) (fun k => by rw [if_neg (by omega)])
    have m23 : ∀ k, mx_i h23 382 k = if k = 2 then nI n else if k = 1 then x11 else mx_i h 382 k := fun k => by
      rw [e23, wi_row]
      by_cases c2 : k = 2
      · rw [if_pos c2, if_pos c2]
      · rw [if_neg c2, if_neg c2, e20', wi_row, i16 382 (by decide), k382]
    have t386 : ∀ k, k < n → mx_i h23 386 k = T k := fun k hk => by rw [i23 386 (by decide) (by decide), k386]; exact xt k hk
    -- the end
    have iF : ∀ b, b ≠ 381 → b ≠ 382 → mx_i (mx_wi h1 381 6 0) b = mx_i h29 b := fun b c1 c2 => by rw [wi_ne c1, U1 b c2, i23 b c1 c2, im]
    have jF : ∀ k, k ≠ 6 → mx_i (mx_wi h1 381 6 0) 381 k = mx_i h16 381 k := fun k hk => by rw [wi_nj hk, U1 381 (by decide), j23]
    have mF : ∀ k, mx_i (mx_wi h1 381 6 0) 382 k = if 369 ≤ k ∧ k < 369 + n then T (k - 369) else if k = 2 then nI n else if k = 1 then x11 else mx_i h 382 k := fun k => by
      rw [wi_ne (by decide), m1 k]
      by_cases c : 369 ≤ k ∧ k < 369 + n
      · rw [if_pos c, if_pos c, t386 _ (by omega)]
      · rw [if_neg c, if_neg c, m23]
    have rF : mx_r (mx_wi h1 381 6 0) = mx_r h29 := by
      show mx_r h1 = _
      rw [K1.2.2.2.1, K23.2.2.2.1, hmd.2.2.2.2]
    have S29 : mxS h29 vn vd vq vr := by rw [e29]; exact mxK_S mxK_wi S24
    have j16 : ∀ k, k ≠ 0 → ¬ (8 ≤ k ∧ k ≤ 13) → k < 17 → mx_i h16 381 k = mx_i h 381 k := fun k k0 k1 k2 => by
      rw [e16, wi_nj k0, u12.2 381 k (by omega), w1.2.2 k k1, k381]
    have i29h : ∀ b, b ≠ 100 → b ≠ 101 → ¬ (103 ≤ b ∧ b ≤ 108) → ¬ (vq ≤ b ∧ b ≤ vq + 4) → mx_i h29 b = mx_i h b := fun b c1 c2 c3 c4 => by
      rw [i29 b c1, i14 b c1 c2, i9 b c2 c3 c4]
    have i100 : ∀ j, j ≠ 13 → j ≠ 14 → mx_i h29 100 j = mx_i h 100 j := fun j c1 c2 => by
      rw [e29, wi_nj c1, i24, e14, wi_ne (by decide), wi_nj c2, i9 100 (by decide) (by omega) (by omega)]
    refine ⟨x11, rfl, ⟨?_, by rw [e1, o1]⟩, ?_, vn, vd, vq, vr, np, ns, nl, ?_⟩
    · rw [jF 0 (by decide)]; exact t16
    · refine bud_bq (bq_tr q9 (bq_tr (h1 := h29) ?_ (bq_tr (bq_mdl hmd) (bq_tr (bq_K K23) (bq_tr (bq_K K1) ⟨rfl, rfl⟩)))))
      rw [e29, e24, e20, e14]
      exact ⟨rfl, rfl⟩
    · refine ⟨mxG_wi (mxK_G K1 G23), ?_, ?_, ⟨some M, ?_, ?_⟩, TpN_0 ?_ ?_, ?_, ?_, ?_⟩
      · exact mxS_of rF S29
      · refine CpN_congr (fun k j hk => ?_) (fun k k1 k2 k3 => ?_) C
        · show mx_i (mx_wi h1 381 6 0) (vn + k) j = mx_i h (vn + k) j
          unfold inV at hk
          rw [iF _ (by omega) (by omega), i29h _ (by omega) (by omega) (by omega) (by omega)]
        · rw [mF k, if_neg (by omega), if_neg k3, if_neg k2]
      · have key : ∀ k j, k ≤ 4 → lw (mx_wi h1 381 6 0) vq k j = mx_i h9 (vq + k) j := fun k j hk => by
          show mx_i (mx_wi h1 381 6 0) (vq + k) j = _
          rw [iF _ (by omega) (by omega), i29 _ (by omega), i14 _ (by omega) (by omega)]
        obtain ⟨l1, l2, l3, l4⟩ := LM
        refine ⟨(key 0 0 (by omega)).trans L1, ⟨(key 0 1 (by omega)).trans l1, fun i hi => ?_, (key 0 2 (by omega)).trans l3, fun i hi => (key 4 i (by omega)).trans (l4 i hi)⟩, b1, b2, b3⟩
        rw [key 1 i (by omega), key 2 i (by omega), key 3 i (by omega)]
        exact l2 i hi
      · refine ⟨⟨b1, b3⟩, ?_, T, n, hn, X.2.1, ?_, fun k hk => ?_, hp⟩
        · rw [mF 1, if_neg (by omega), if_neg (by decide), if_pos rfl]; exact o1
        · rw [mF 2, if_neg (by omega), if_pos rfl]
        · rw [mF (369 + k), if_pos (by omega), Nat.add_sub_cancel_left]
      · rw [iF 101 (by decide) (by decide), i29 101 (by decide), e14, wi_at rfl rfl]
      · rw [jF 8 (by decide), e16, wi_nj (by decide), u12.2 381 8 (by omega)]; exact w5
      · rw [iF 100 (by decide) (by decide), jF 12 (by decide), e29, wi_nj (by decide), i24, e14, wi_ne (by decide), wi_at rfl rfl, e16, wi_nj (by decide), o2]
      · obtain ⟨f, c, g1, g2, g3, g4, g5, g6⟩ := I.2.2.2.2.2.2.1
        refine ⟨f, 0, g1, by omega, ?_, ?_, wi_at rfl rfl, fun i hi => by omega⟩
        · rw [iF 100 (by decide) (by decide), i100 12 (by decide) (by decide)]; exact g3
        · rw [iF 100 (by decide) (by decide), e29, wi_at rfl rfl]; rfl
      · have U : agr (fun b => ¬ (165 ≤ b ∧ b < 188) ∧ b ≠ 383) h (ints h (mx_wi h1 381 6 0)) := ⟨rfl, fun _ _ => rfl, fun b hb => by
          show mx_i (mx_wi h1 381 6 0) b = _
          have hb : (165 ≤ b ∧ b < 188) ∨ b = 383 := by omega
          rw [iF b (by omega) (by omega), i29h b (by omega) (by omega) (by omega) (by omega)]⟩
        refine KpN_i (h := ints h (mx_wi h1 381 6 0)) rfl (K_agr LWd_ok U (fun b c1 c2 => by omega) (by omega) ?_ ?_ I.2.2.2.2.2.2.2)
        · show mx_i (mx_wi h1 381 6 0) 100 10 = _
          rw [iF 100 (by decide) (by decide), i100 10 (by decide) (by decide)]
        · show mx_i (mx_wi h1 381 6 0) 381 3 = _
          rw [jF 3 (by decide), j16 3 (by decide) (by omega) (by decide)]
