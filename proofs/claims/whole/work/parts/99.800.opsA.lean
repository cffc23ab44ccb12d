/-! OPS A: what the law says, what is ahead -/
theorem op_fin2 {LW : mxLW} (ok : LWok LW) {code : Nat → Int32} {o : mxO} {h h2 : mxH} {vn vd vr vq np ns nl : Nat} {b : Int32} (I : Inv LW h vn vd vr vq np ns nl) (u : smr vd vr vq h h2) (hx : bud h h2) (ho : ansOk code o b (mx_i h2 381 0)) : ∃ b2, (.inl (some (.int b)) : mxO) = .inl (some (.int b2)) ∧ ansOk code o b2 (mx_i h2 381 0) ∧ bud h h2 ∧ ∃ vn vd vr vq np ns nl, Inv LW h2 vn vd vr vq np ns nl :=
  ⟨b, rfl, ho, hx, vn, vd, vr, vq, np, ns, nl, Inv_smr ok u I⟩
theorem smr_U {P : Nat → Prop} {h h1 : mxH} {vd vr vq : Nat} (u : mxU P h h1) (hp : ∀ c, P c → scr vd vr vq c ∧ c ≠ 101 ∧ c ≠ 381) : smr vd vr vq h h1 := by
  refine ⟨u.1, fun b _ => by rw [u.2.2.2.1], fun b hb => u.2.2.2.2.2 b (fun q => hb (hp b q).1), ?_, fun k _ => ?_⟩
  · rw [mxU_i u (fun q => (hp _ q).2.1 rfl)]
  · rw [mxU_i u (fun q => (hp _ q).2.2 rfl)]
theorem smr_hr {h h1 : mxH} {vn vd vr vq : Nat} (S : mxS h vn vd vr vq) (u : mxU (inHr vd vr) h h1) : smr vd vr vq h h1 := by
  have a := S.2.2.2.2.1
  have b := S.2.2.2.2.2.1
  refine smr_U u (fun c hc => ?_)
  unfold inHr at hc
  unfold scr
  omega
theorem bud_q {h h1 h2 : mxH} (u : bq h h1) (w : bud h1 h2) : bud h h2 := by
  unfold bud at *
  rw [← u.1, ← u.2]
  exact w
theorem bud_r {h h1 : mxH} (u : bq h h1) : bud h h1 := by
  unfold bud
  rw [u.1, u.2]
  omega
/-- the reference has looked ahead: nothing that counts is changed -/
theorem smr_look {hm h2 h6 h13 h17 : mxH} {v : Int32} {vd vr vq : Nat} (hv : vd + 15 < 381 ∧ vr + 6 < 381 ∧ vq + 6 < 381) (e2 : h2 = mx_wi hm 381 0 v) (e6 : h6 = W_225 h2) (u13 : frW h6 h13) (ho : ∀ k, 369 ≤ k → mx_i h13 382 k = mx_i h6 382 k) (e17 : h17 = W_226 h13) : smr vd vr vq hm h17 ∧ mx_i h17 381 0 = v ∧ bq hm h17 := by
  have U6 := W225_p (h := h2)
  have U17 := W226_p (h := h13)
  rw [← e6] at U6
  rw [← e17] at U17
  have m6 : mx_i h6 382 = mx_i hm 382 := by rw [mxU_i U6.1 (by decide), e2]; exact wi_ne (by decide)
  have m17 : mx_i h17 382 = mx_i h2 382 := back_m e6 u13.2.1 rfl (fun k hk => by rw [ho k hk, mxU_i U6.1 (by decide)]) e17
  refine ⟨⟨?_, fun b hb => ?_, fun b hb => ?_, ?_, fun k hk => ?_⟩, ?_, ?_⟩
  · rw [U17.1.1, u13.1.1, U6.1.1, e2]; rfl
  · rw [U17.1.2.2.2.1, u13.1.2.2.2.1, U6.1.2.2.2.1, e2]; rfl
  · have b1 : b ≠ 381 := fun q => hb (by unfold scr; omega)
    have b2 : b ≠ 384 := fun q => hb (by unfold scr; omega)
    have b3 : b ≠ 387 := fun q => hb (by unfold scr; omega)
    by_cases c : b = 382
    · rw [c, m17, e2]; exact wi_ne (by decide)
    · rw [mxU_i U17.1 c, u13.2.1 b b1 b3 c, mxU_i U6.1 b2, e2, wi_ne b1]
  · rw [mxU_i U17.1 (by decide), u13.2.1 101 (by decide) (by decide) (by decide), mxU_i U6.1 (by decide), e2, wi_ne (by decide)]
  · rw [mxU_i U17.1 (by decide), u13.2.2 k (by omega), mxU_i U6.1 (by decide), e2, wi_nj (by omega)]
  · rw [mxU_i U17.1 (by decide), u13.2.2 0 (by omega), mxU_i U6.1 (by decide), e2, wi_at rfl rfl]
  · refine ⟨?_, ?_⟩
    · rw [U17.1.2.1, u13.1.2.1, U6.1.2.1, e2]; rfl
    · rw [U17.1.2.2.1, u13.1.2.2.1, U6.1.2.2.1, e2]; rfl
theorem S_lt {h : mxH} {vn vd vr vq : Nat} (S : mxS h vn vd vr vq) : vd + 15 < 381 ∧ vr + 6 < 381 ∧ vq + 6 < 381 := by
  have a := S.2.2.2.2.1
  have b := S.2.2.2.2.2.1
  omega
theorem S_ne {h : mxH} {vn vd vr vq : Nat} (S : mxS h vn vd vr vq) : (vn = 119 ∧ vd = 135 ∨ vn = 135 ∧ vd = 119) ∧ (vr = 151 ∨ vr = 158) := by
  have a := S.2.2.2.2.1
  have b := S.2.2.2.2.2.1
  omega
theorem v191_yB {r : Nat → Int32} {x a b : Int32} (h : ¬ x < a ∧ ¬ b < x) : V_191 r x a b = 1 := by unfold V_191; rw [if_neg h.1, if_neg h.2]
theorem v191_nB {r : Nat → Int32} {x a b : Int32} (h : x < a ∨ b < x) : V_191 r x a b = 0 := by
  unfold V_191
  by_cases c : x < a
  · rw [if_pos c]
  · rw [if_neg c, if_pos (h.resolve_left c)]
theorem op_does (i1 i2 : Int32) : Op LWd 139 245 [.int i1, .int i2] (fun k => if k = 2 then 1 else if k = 3 then 2 else 0) := by
  intro h vn vd vr vq np ns nl I
  have ok := LWd_ok
  have C := I.2.2.1
  have S := I.2.1
  obtain ⟨W, LC0, LR0⟩ := I.2.2.2.1
  have h6 := C_np6 C
  have n0 : (0 : Int32) ≤ mx_i h 382 3 := C_np C ▸ nI0 (by omega)
  have no : ∀ (e : Nat) (t : Int32), (e = 2 ∧ t = 1 ∧ ¬ isI i1 (mx_i h 382 3)) ∨ (e = 3 ∧ t = 2 ∧ isI i1 (mx_i h 382 3) ∧ (i2 < 0 ∨ 2 < i2)) → ∀ hm, mdl (mx_ex h) hm → mx_wp 500 245 0 (mx_fr 245 [.ref 381, .int i1, .int i2]) [] hm (fun o2 h2 => ∃ b, o2 = .inl (some (.int b)) ∧ ansOk (fun k => if k = 2 then 1 else if k = 3 then 2 else 0) (.inr e) b (mx_i h2 381 0) ∧ bud h h2 ∧ ∃ vn vd vr vq np ns nl, Inv LWd h2 vn vd vr vq np ns nl) := by
    intro e t hc hm hmd
    have em : mx_i hm 382 = mx_i h 382 := md_382 hmd 382
    refine tr_245_0 (agr_G (P := fun _ => False) (agr_mdl hmd) (mxG_ex I.1)) ⟨v01, fun v2 e2 h3 e3 => ?_⟩
    have e2 : v2 = t := by
      rw [em] at e2
      unfold V_200 at e2
      rcases hc with ⟨-, rfl, hc⟩ | ⟨-, rfl, hc, hd⟩
      · rw [v191_n n0 hc] at e2; simpa using e2
      · rw [v191_y n0 hc, v191_nB hd] at e2; simpa using e2
    subst e2
    subst e3
    rw [thr0]
    refine ⟨fun _ => op_fin ok I (smr_tr smr_ex (smr_mdl hmd)) (bud_ex hmd) ?_, fun q => absurd ?_ q⟩
    · rcases hc with ⟨rfl, rfl, -⟩ | ⟨rfl, rfl, -⟩
      · exact ⟨rfl, by decide⟩
      · exact ⟨rfl, by decide⟩
    · rcases hc with ⟨-, rfl, -⟩ | ⟨-, rfl, -⟩ <;> decide
  refine tr_139_0 I.1 S ⟨fun c => ?_, fun c => ?_⟩
  · rw [C_p C] at c
    have c' : isI i1 (mx_i h 382 3) := by rw [C_np C]; exact c
    refine ⟨fun q => no 3 2 (.inr ⟨rfl, rfl, c', .inl q⟩), fun q => ⟨fun q2 => no 3 2 (.inr ⟨rfl, rfl, c', .inr q2⟩), fun q2 => ?_⟩⟩
    obtain ⟨x, hx, rfl⟩ := isI_nI (by omega) c
    have i2r : isR i2 0 2 := ⟨by grind, by grind⟩
    obtain ⟨j, hj, rfl⟩ := isR_N (B := 2) (by decide) i2r
    refine ⟨⟨(W, _, np, ns, nl, x, j), C, LC0, hx, rfl, by show j < 3; omega, rfl⟩, fun x5 h6' u6 hm hmd => ?_⟩
    have ex := u6.2 W _ np ns nl x j C LC0 hx rfl (by omega) rfl
    have b0 := S_ne S
    have m6 : mx_i h6' 382 = mx_i h 382 := mxU_i u6.1 (by omega)
    have em : mx_i hm 382 = mx_i h 382 := (md_382 hmd 382).trans m6
    have G6 := mxU_G u6.1 I.1
    have s6 : smr vd vr vq h h6' := smr_U u6.1 (fun c hc => by unfold scr; omega)
    refine tr_245_0 (agr_G (P := fun _ => False) (agr_mdl hmd) G6) ⟨v01, fun v2 e2 h3 e3 => ?_⟩
    have e2 : v2 = 0 := by
      rw [em] at e2
      unfold V_200 at e2
      rw [v191_y n0 c', v191_yB ⟨q, q2⟩] at e2; simpa using e2
    subst e2
    have t3 : mx_i h3 381 0 = 0 := by rw [e3, thr0]
    have m3 : mx_i h3 382 = mx_i h 382 := by rw [e3, thr382]; exact em
    rw [t3]
    refine ⟨fun q => absurd q (by decide), fun _ => ⟨⟨(W, np, ns, nl, x), by rw [m3]; exact ⟨_, C⟩, by rw [m3]; exact LR0, hx, rfl⟩, fun h9 u9 v12 e12 => ?_⟩⟩
    have a9 := u9.2 W np ns nl x (by rw [m3]; exact ⟨_, C⟩) (by rw [m3]; exact LR0) hx rfl
    rw [m3] at a9
    have m9 : mx_i h9 382 = mx_i h 382 := (frQ_m u9.1).trans m3
    have s9 : smr vd vr vq hm h9 := by
      refine smr_tr (smr_thrown (v := 0)) ?_
      rw [← e3]
      refine ⟨u9.1.1.1, fun b _ => by rw [u9.1.1.2.2.2.1], fun b hb => u9.1.2.1 b (fun q => hb (by unfold scr; omega)) (fun q => hb (by unfold scr; omega)), ?_, fun k hk => u9.1.2.2 k (by omega)⟩
      rw [u9.1.2.1 101 (by decide) (by decide)]
    have t9 : mx_i h9 381 0 = 0 := (u9.1.2.2 0 (by omega)).trans t3
    refine op_fin2 ok I (smr_tr (smr_tr s6 (smr_mdl hmd)) s9) ?_ ⟨t9, ?_⟩
    · exact bud_r (bq_tr (bq_tr (bq_tr (bq_U u6.1) (bq_mdl hmd)) (bq_wi' e3)) (bq_K u9.1.1))
    · rw [e12, ex]
      have : j = 0 ∨ j = 1 ∨ j = 2 := by omega
      rcases this with rfl | rfl | rfl
      · rw [if_pos (show nI 0 = 0 from rfl), askC_lt (by decide)]; exact (a9 0 (by decide)).symm
      · rw [if_neg (show ¬ nI 1 = 0 by decide), if_pos (show nI 1 = 1 from rfl), askC_lt (by decide)]; exact (a9 1 (by decide)).symm
      · rw [if_neg (show ¬ nI 2 = 0 by decide), if_neg (show ¬ nI 2 = 1 by decide), show mx_i h9 381 19 = _ from a9 2 (by decide), m9, v192_mn]
        cases W with
        | none =>
          have L1 : mx_i h 382 1 = -1 := LR0
          rw [if_pos L1]; rfl
        | some Ls =>
          have ne : ¬ mx_i h 382 1 = -1 := by rw [LR0.2.1]; exact nI_ne1 (by have := LR0.1.1; omega)
          rw [if_neg ne]
          show (if 2 = 2 then (if ask (some Ls) (mx_i h 382) x 2 < 100 then ask (some Ls) (mx_i h 382) x 2 else 100) else ask (some Ls) (mx_i h 382) x 2) = _
          rw [if_pos rfl, mn_c]
  · rw [C_p C, ← C_np C] at c
    exact no 2 1 (.inl ⟨rfl, rfl, c⟩)
/-- what the reference's row is like after hours -/
theorem look {W : Option (List LL)} {np ns nl n : Nat} {r : Nat → Int32} {dr : Int32} {v : Nat → Nat → Int32} (C : CpN v r np ns nl) {k : Nat} (hk : 369 ≤ k) : hrX W dr np ns n r k = r k := hrI_off (C_np6 C) (C_ns10 C) (by unfold offR; omega) n
theorem op_gravel (i1 : Int32) : Op LWd 171 290 [.int i1] (fun k => if k = 0 then 1 else 0) := by
  intro h vn vd vr vq np ns nl I
  have ok := LWd_ok
  have C := I.2.2.1
  have S := I.2.1
  obtain ⟨W, LC0, LR0⟩ := I.2.2.2.1
  refine tr_171_0 I.1 S ⟨fun c => ?_, fun c hm hmd => ?_⟩
  · obtain ⟨n, hn, rfl⟩ := isI_nI (n := 201) (by decide) c
    refine ⟨⟨(W, _, np, ns, nl, n), C, LC0, by show n ≤ 200; omega, rfl⟩, fun h4 u4 => ?_⟩
    have C4 := u4.2 W _ np ns nl n C LC0 (by omega) rfl
    have b0 := S_ne S
    have Cn4 : CpN (vw h4 vn) (mx_i h 382) np ns nl := CpN_U u4.1 (fun k hk q => by unfold inHr at q; omega) C
    refine ⟨C_cs C4, C_cs Cn4, fun hm hmd => ?_⟩
    have m4 : mx_i h4 382 = mx_i h 382 := mxU_i u4.1 (by unfold inHr; omega)
    have em : mx_i hm 382 = mx_i h 382 := (md_382 hmd 382).trans m4
    refine tr_290_0 (agr_G (P := fun _ => False) (agr_mdl hmd) (mxU_G u4.1 I.1)) (fun v1 e1 h2 e2 => ?_)
    rw [v191_yB (show ¬ nI n < 0 ∧ ¬ (200 : Int32) < nI n from ⟨nI_pos (by omega), fun q => absurd ((nI_ltI (a := 200) (by decide) (by omega)).mp q) (by omega)⟩), if_neg (by decide)] at e1
    subst e1
    have t2 : mx_i h2 381 0 = 0 := by rw [e2, thr0]
    rw [t2]
    refine ⟨fun q => absurd q (by decide), fun _ h6 e6 => ?_⟩
    have m6 : mx_i h6 382 = mx_i h 382 := by rw [e6, mxU_i W225_p.1 (by decide), e2, thr382]; exact em
    have R6 : Rok (mx_i h6 382) np ns nl := by rw [m6]; exact ⟨_, C⟩
    have L6 : LR (mx_i h6 382) W := by rw [m6]; exact LR0
    refine ⟨by rw [m6]; exact C_rs C, ⟨(W, np, ns, nl, n), R6, L6, by show n ≤ 200; omega, rfl⟩, fun x12 h13 u13 => ?_⟩
    have o := (u13.2 W np ns nl n R6 L6 (by omega) rfl).1
    rw [m6, hrX_I] at o
    have C13 : CpN (vw h4 vd) (mx_i h13 382) np ns nl := by rw [o]; exact C4
    refine ⟨C_rs C13, fun h17 e17 => ?_⟩
    obtain ⟨s17, t17, q17⟩ := smr_look (S_lt S) e2 e6 u13.1 (fun k hk => by rw [o, m6]; exact look C hk) e17
    refine op_fin2 ok I (smr_tr (smr_tr (smr_hr S u4.1) (smr_mdl hmd)) s17) (bud_r (bq_tr (bq_tr (bq_U u4.1) (bq_mdl hmd)) q17)) ⟨t17, ?_⟩
    rw [cm_unpaid C4, cm_unpaid Cn4, o, m6]
  · have em : mx_i hm 382 = mx_i h 382 := md_382 hmd 382
    refine tr_290_0 (agr_G (P := fun _ => False) (agr_mdl hmd) (mxG_ex I.1)) (fun v1 e1 h2 e2 => ?_)
    have : i1 < 0 ∨ 200 < i1 := by
      by_cases q : i1 < 0
      · exact .inl q
      · refine .inr ?_
        have : ¬ i1 < 201 := fun y => c ⟨q, y⟩
        grind
    rw [v191_nB this, if_pos rfl] at e1
    subst e1
    subst e2
    rw [thr0]
    exact ⟨fun _ => op_fin ok I (smr_tr smr_ex (smr_mdl hmd)) (bud_ex hmd) ⟨rfl, by decide⟩, fun q => absurd (by decide) q⟩
theorem op_ahead (i1 i2 i3 : Int32) : Op LWd 172 291 [.int i1, .int i2, .int i3] (fun k => if k = 2 then 1 else if k = 0 then 2 else if k = 3 then 3 else 0) := by
  intro h vn vd vr vq np ns nl I
  have ok := LWd_ok
  have C := I.2.2.1
  have S := I.2.1
  obtain ⟨W, LC0, LR0⟩ := I.2.2.2.1
  have h6 := C_np6 C
  have n0 : (0 : Int32) ≤ mx_i h 382 3 := C_np C ▸ nI0 (by omega)
  have r200 : ∀ i : Int32, ¬ isI i 201 → i < 0 ∨ 200 < i := by
    intro i c
    by_cases q : i < 0
    · exact .inl q
    · refine .inr ?_
      have : ¬ i < 201 := fun y => c ⟨q, y⟩
      grind
  have y200 : isI i2 201 → ¬ i2 < 0 ∧ ¬ 200 < i2 := fun c => ⟨c.1, by have := c.2; grind⟩
  have no : ∀ (e : Nat) (t : Int32), (e = 2 ∧ t = 1 ∧ ¬ isI i1 (mx_i h 382 3)) ∨ (e = 0 ∧ t = 2 ∧ isI i1 (mx_i h 382 3) ∧ ¬ isI i2 201) ∨ (e = 3 ∧ t = 3 ∧ isI i1 (mx_i h 382 3) ∧ isI i2 201 ∧ (i3 < 0 ∨ 3 < i3)) → ∀ hm, mdl (mx_ex h) hm → mx_wp 500 291 0 (mx_fr 291 [.ref 381, .int i1, .int i2, .int i3]) [] hm (fun o2 h2 => ∃ b, o2 = .inl (some (.int b)) ∧ ansOk (fun k => if k = 2 then 1 else if k = 0 then 2 else if k = 3 then 3 else 0) (.inr e) b (mx_i h2 381 0) ∧ bud h h2 ∧ ∃ vn vd vr vq np ns nl, Inv LWd h2 vn vd vr vq np ns nl) := by
    intro e t hc hm hmd
    have em : mx_i hm 382 = mx_i h 382 := md_382 hmd 382
    refine tr_291_0 (agr_G (P := fun _ => False) (agr_mdl hmd) (mxG_ex I.1)) ⟨v01, fun v2 e2 h3 e3 => ?_⟩
    have e2 : v2 = t := by
      rw [em] at e2
      unfold V_200 at e2
      rcases hc with ⟨-, rfl, hc⟩ | ⟨-, rfl, hc, hd⟩ | ⟨-, rfl, hc, hd, he⟩
      · rw [v191_n n0 hc] at e2; simpa using e2
      · rw [v191_y n0 hc, v191_nB (r200 _ hd)] at e2; simpa using e2
      · rw [v191_y n0 hc, v191_yB (y200 hd), v191_nB he] at e2; simpa using e2
    subst e2
    subst e3
    rw [thr0]
    refine ⟨fun _ => op_fin ok I (smr_tr smr_ex (smr_mdl hmd)) (bud_ex hmd) ?_, fun q => absurd ?_ q⟩
    · rcases hc with ⟨rfl, rfl, -⟩ | ⟨rfl, rfl, -⟩ | ⟨rfl, rfl, -⟩ <;> exact ⟨rfl, by decide⟩
    · rcases hc with ⟨-, rfl, -⟩ | ⟨-, rfl, -⟩ | ⟨-, rfl, -⟩ <;> decide
  refine tr_172_0 I.1 S ⟨fun c => ?_, fun c => ?_⟩
  · rw [C_p C] at c
    have c' : isI i1 (mx_i h 382 3) := by rw [C_np C]; exact c
    refine ⟨fun c2 => ⟨fun q => no 3 3 (.inr (.inr ⟨rfl, rfl, c', c2, .inl q⟩)), fun q => ⟨fun q2 => no 3 3 (.inr (.inr ⟨rfl, rfl, c', c2, .inr q2⟩)), fun q2 => ?_⟩⟩, fun c2 => no 0 2 (.inr (.inl ⟨rfl, rfl, c', c2⟩))⟩
    obtain ⟨x, hx, rfl⟩ := isI_nI (by omega) c
    have y2 := y200 c2
    obtain ⟨n, hn, rfl⟩ := isI_nI (n := 201) (by decide) c2
    refine ⟨⟨(W, _, np, ns, nl, n), C, LC0, by show n ≤ 200; omega, rfl⟩, fun h7 u7 => ?_⟩
    have C7 := u7.2 W _ np ns nl n C LC0 (by omega) rfl
    have b0 := S_ne S
    have nc : (nI x).toNatClampNeg = x := nI_clamp (by omega)
    have v6 : vp_in (nI x) 6 := vp_in_nI (by omega) (by decide)
    have m7 : mx_i h7 382 = mx_i h 382 := mxU_i u7.1 (by unfold inHr; omega)
    have G7 := mxU_G u7.1 I.1
    have fin : ∀ (y : Int32), y = (if i3 = 0 then hrX W 0 np ns n (mx_i h 382) (33 + 6 * x + 0) else if i3 = 1 then hrX W 0 np ns n (mx_i h 382) (33 + 6 * x + 2) else if i3 = 2 then hrX W 0 np ns n (mx_i h 382) (33 + 6 * x + 4) else V_205 (hrX W 0 np ns n (mx_i h 382)) (nI x)) → ∀ hm, mdl h7 hm → mx_wp 500 291 0 (mx_fr 291 [.ref 381, .int (nI x), .int (nI n), .int i3]) [] hm (fun o2 h2 => ∃ b, o2 = .inl (some (.int b)) ∧ ansOk (fun k => if k = 2 then 1 else if k = 0 then 2 else if k = 3 then 3 else 0) (.inl (some (.int y))) b (mx_i h2 381 0) ∧ bud h h2 ∧ ∃ vn vd vr vq np ns nl, Inv LWd h2 vn vd vr vq np ns nl) := by
      intro y hy hm hmd
      have em : mx_i hm 382 = mx_i h 382 := (md_382 hmd 382).trans m7
      refine tr_291_0 (agr_G (P := fun _ => False) (agr_mdl hmd) G7) ⟨v01, fun v2 e2 h3 e3 => ?_⟩
      have e2 : v2 = 0 := by
        rw [em] at e2
        unfold V_200 at e2
        rw [v191_y n0 c', v191_yB y2, v191_yB ⟨q, q2⟩] at e2; simpa using e2
      subst e2
      have t3 : mx_i h3 381 0 = 0 := by rw [e3, thr0]
      rw [t3]
      refine ⟨fun q => absurd q (by decide), fun _ h7' e7 => ?_⟩
      have m7' : mx_i h7' 382 = mx_i h 382 := by rw [e7, mxU_i W225_p.1 (by decide), e3, thr382]; exact em
      have R7 : Rok (mx_i h7' 382) np ns nl := by rw [m7']; exact ⟨_, C⟩
      have L7 : LR (mx_i h7' 382) W := by rw [m7']; exact LR0
      refine ⟨⟨(W, np, ns, nl, n), R7, L7, by show n ≤ 200; omega, rfl⟩, fun x12 h13 u13 => ?_⟩
      have o := (u13.2 W np ns nl n R7 L7 (by omega) rfl).1
      rw [m7', hrX_I] at o
      have C13 : CpN (vw h7 vd) (mx_i h13 382) np ns nl := by rw [o]; exact C7
      refine ⟨⟨fun _ => ⟨vpU (by omega), trivial⟩, fun _ => ⟨fun _ => ⟨vpU (by omega), trivial⟩, fun _ => ⟨fun _ => ⟨vpU (by omega), trivial⟩, fun _ => ⟨C_rs C13, trivial⟩⟩⟩⟩, fun v16 e16 h17 e17 => ?_⟩
      obtain ⟨s17, t17, q17⟩ := smr_look (S_lt S) e3 e7 u13.1 (fun k hk => by rw [o, m7']; exact look C hk) e17
      refine op_fin2 ok I (smr_tr (smr_tr (smr_hr S u7.1) (smr_mdl hmd)) s17) (bud_r (bq_tr (bq_tr (bq_U u7.1) (bq_mdl hmd)) q17)) ⟨t17, ?_⟩
      rw [hy, e16, o, u0 (by omega), u2 (by omega), u4 (by omega)]
    refine ⟨fun z => ⟨v6, fin _ ?_⟩, fun z => ⟨fun z1 => ⟨v6, fin _ ?_⟩, fun z1 => ⟨fun z2 => ⟨v6, fin _ ?_⟩, fun z2 => ⟨C_cs C7, fin _ ?_⟩⟩⟩⟩
    · rw [if_pos z, nc, Cu2 C7 hx]
    · rw [if_neg z, if_pos z1, nc, Cu4 C7 hx]
    · rw [if_neg z, if_neg z1, if_pos z2, nc, Cu6 C7 hx]
    · rw [if_neg z, if_neg z1, if_neg z2, cm_load C7]
  · rw [C_p C, ← C_np C] at c
    exact no 2 1 (.inl ⟨rfl, rfl, c⟩)
theorem op_trial (i1 i2 : Int32) : Op LWd 173 294 [.int i1, .int i2] (fun k => if k = 0 then 1 else 0) := by
  intro h vn vd vr vq np ns nl I
  have ok := LWd_ok
  have C := I.2.2.1
  have S := I.2.1
  obtain ⟨W, LC0, LR0⟩ := I.2.2.2.1
  refine tr_173_0 I.1 S ⟨fun c => ?_, fun c hm hmd => ?_⟩
  · obtain ⟨n, hn, rfl⟩ := isI_nI (n := 101) (by decide) c
    refine ⟨⟨(W, _, np, ns, nl, n), C, LC0, by show n ≤ 200; omega, rfl⟩, fun h4 u4 => ?_⟩
    have C4 := u4.2 W _ np ns nl n C LC0 (by omega) rfl
    have er : rs (mx_i h 382) 8 (mx_i h vn 7) = mx_i h 382 := by
      funext j
      unfold rs
      by_cases q : j = 8
      · rw [if_pos q, q]; exact C_seed C
      · rw [if_neg q]
    rw [er] at C4
    have b0 := S_ne S
    refine ⟨⟨fun _ => ⟨C_cp C4, trivial⟩, fun _ => trivial⟩, fun v8 e8 hm hmd => ?_⟩
    have m4 : mx_i h4 382 = mx_i h 382 := mxU_i u4.1 (by unfold inHr; omega)
    have em : mx_i hm 382 = mx_i h 382 := (md_382 hmd 382).trans m4
    refine tr_294_0 (agr_G (P := fun _ => False) (agr_mdl hmd) (mxU_G u4.1 I.1)) (fun v1 e1 h2 e2 => ?_)
    rw [v191_yB (show ¬ nI n < 0 ∧ ¬ (100 : Int32) < nI n from ⟨nI_pos (by omega), fun q => absurd ((nI_ltI (a := 100) (by decide) (by omega)).mp q) (by omega)⟩), if_neg (by decide)] at e1
    subst e1
    have t2 : mx_i h2 381 0 = 0 := by rw [e2, thr0]
    rw [t2]
    refine ⟨fun q => absurd q (by decide), fun _ h6 e6 => ?_⟩
    have m6 : mx_i h6 382 = mx_i h 382 := by rw [e6, mxU_i W225_p.1 (by decide), e2, thr382]; exact em
    have R6 : Rok (mx_i h6 382) np ns nl := by rw [m6]; exact ⟨_, C⟩
    have L6 : LR (mx_i h6 382) W := by rw [m6]; exact LR0
    refine ⟨⟨(W, np, ns, nl, n), R6, L6, by show n ≤ 200; omega, rfl⟩, fun x11 h12 u12 => ?_⟩
    have o := (u12.2 W np ns nl n R6 L6 (by omega) rfl).1
    rw [m6, hrX_I] at o
    have C12 : CpN (vw h4 vd) (mx_i h12 382) np ns nl := by rw [o]; exact C4
    refine ⟨⟨fun _ => ⟨C_rp C12, trivial⟩, fun _ => ⟨C_rp C12, trivial⟩⟩, fun v15 e15 h16 e16 => ?_⟩
    obtain ⟨s17, t17, q17⟩ := smr_look (S_lt S) e2 e6 u12.1 (fun k hk => by rw [o, m6]; exact look C hk) e16
    refine op_fin2 ok I (smr_tr (smr_tr (smr_hr S u4.1) (smr_mdl hmd)) s17) (bud_r (bq_tr (bq_tr (bq_U u4.1) (bq_mdl hmd)) q17)) ⟨t17, ?_⟩
    rw [e8, e15, cm_purses C4, cm_hurt C4, o]
  · refine tr_294_0 (agr_G (P := fun _ => False) (agr_mdl hmd) (mxG_ex I.1)) (fun v1 e1 h2 e2 => ?_)
    have : i1 < 0 ∨ 100 < i1 := by
      by_cases q : i1 < 0
      · exact .inl q
      · refine .inr ?_
        have : ¬ i1 < 101 := fun y => c ⟨q, y⟩
        grind
    rw [v191_nB this, if_pos rfl] at e1
    subst e1
    subst e2
    rw [thr0]
    exact ⟨fun _ => op_fin ok I (smr_tr smr_ex (smr_mdl hmd)) (bud_ex hmd) ⟨rfl, by decide⟩, fun q => absurd (by decide) q⟩
