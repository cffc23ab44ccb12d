/-! SHARE -/
theorem cN_ext {p : Nat → Bool} {n : Nat} : ∀ j, (∀ z, n ≤ z → z < n + j → p z = false) → cN p (n + j) = cN p n := by
  intro j
  induction j with
  | zero => intro _; rfl
  | succ j ih =>
    intro w
    show cN p (n + j) + (if p (n + j) = true then 1 else 0) = _
    rw [ih (fun z a b => w z a (by omega)), w (n + j) (by omega) (by omega)]
    rfl
theorem bits_orS {r : Nat → Int32} {n : Nat} {p : Nat → Bool} (hn : n ≤ 10) : V_195 r (orS n p) = nI (cN p n) := by
  rw [bits_cN]
  have a := cN_ext (p := bt (orS n p)) (n := n) (31 - n) (fun z h1 h2 => by rw [bt_orS (by omega) _ (by omega), decide_eq_false (by omega)]; rfl)
  rw [show n + (31 - n) = 31 by omega] at a
  rw [a, cN_cg (q := p) (fun z hz => btS (by omega) hz)]
theorem wn_fold {r : Nat → Int32} {np ns : Nat} {x i2 i4 : Int32} (e4 : r 4 = nI ns) (n10 : ns ≤ 10) (n6 : np ≤ 6) : ∀ i, i ≤ np → fo (F_270_24 r i2 (orS np (hrA r x)) i4) i 0 = orS ns (wnA r x i) := by
  intro i
  induction i with
  | zero =>
    intro _
    apply b_ext
    intro j hj
    rw [bt_orS (by omega) _ hj]
    show bt 0 j = _
    rw [b_0]
    unfold wnA
    simp
  | succ i ih =>
    intro hi
    show F_270_24 r i2 (orS np (hrA r x)) i4 i (fo (F_270_24 r i2 (orS np (hrA r x)) i4) i 0) = _
    rw [ih (by omega)]
    unfold F_270_24
    rw [v194 (by omega), btS (by omega) (show i < np by omega)]
    by_cases c : hrA r x i = true
    · rw [if_pos c, if_neg (by decide), md_203 e4 n10, orS_or n10]
      refine orS_congr (fun z _ => ?_)
      rw [wnA_s, c]; rfl
    · rw [if_neg c, if_pos rfl, or_0]
      refine orS_congr (fun z _ => ?_)
      have c' : hrA r x i = false := by simpa using c
      rw [wnA_s, c']; simp
theorem op_share (x0 x1 : Int32) : Op LWd 157 270 [.int x0, .int x1] (fun k => if k = 2 then 1 else 0) := by
  intro h vn vd vr vq np ns nl I
  have C := I.2.2.1
  have S := I.2.1
  have n6 := C_np6 C
  have n10 := C_ns10 C
  refine tr_157_0 I.1 S ⟨fun ci => ⟨⟨(_, np, ns, nl), C⟩, fun h4 u4 => ?_⟩, fun ci hm hmd => ?_⟩
  · obtain ⟨U4, w4⟩ := u4
    have w4 := w4 _ np ns nl C
    obtain ⟨r, hr⟩ : ∃ r, r = mx_i h 382 := ⟨_, rfl⟩
    rw [← hr] at w4 C
    unfold pst9 at w4
    have cl := cN_le (p := hrA r x0) np
    have ml := cN_le (p := wnA r x0 np) ns
    obtain ⟨c, hce⟩ : ∃ c, c = cN (hrA r x0) np := ⟨_, rfl⟩
    obtain ⟨m, hme⟩ : ∃ m, m = cN (wnA r x0 np) ns := ⟨_, rfl⟩
    rw [← hce, ← hme] at w4
    rw [← hce] at cl
    rw [← hme] at ml
    obtain ⟨p6, p0, pc⟩ := w4
    refine ⟨⟨fun _ => trivial, fun _ => ⟨⟨fun _ => trivial, fun _ => ⟨fun _ => trivial, fun q => ⟨fun q2 => ⟨?_, trivial⟩, fun _ => trivial⟩⟩⟩, trivial⟩⟩, fun v8 e8 hm hmd => ?_⟩
    · rw [p6] at q2
      exact vp_of_isI (n := m) (by omega) (by omega) (by omega) ⟨q, q2⟩
    · have m4 : mx_i h4 382 = r := (mxU_i U4 (by decide)).trans hr.symm
      have em : mx_i hm 382 = r := (md_382 hmd 382).trans m4
      have Gm : mxG hm := agr_G (P := fun _ => False) (agr_mdl hmd) (mxU_G U4 I.1)
      refine tr_270_0 Gm ⟨v01, fun v2 e2 h3 e3 => ?_⟩
      have t2 : v2 = 0 := by
        unfold V_202 at e2
        rw [v191_y' (c := 12) (e := 11) (by decide) (by decide) ci] at e2
        simpa using e2
      subst t2
      have t3 : mx_i h3 381 0 = 0 := by rw [e3, thr0]
      have m3 : mx_i h3 382 = r := by rw [e3, thr382]; exact em
      have G3 : mxG h3 := by rw [e3]; exact mxG_wi Gm
      have s4 : smr vd vr vq h h4 := smr_U U4 (fun c hc => by unfold scr; omega)
      have s3 : smr vd vr vq hm h3 := by rw [e3]; exact smr_thrown
      have fin : ∀ h5 x, mxU (fun b => b = 388 ∨ b = 389 ∨ b = 390) h3 h5 → v8 = x → ∃ b, (.inl (some (.int x)) : mxO) = .inl (some (.int b)) ∧ ansOk (fun k => if k = 2 then 1 else 0) (.inl (some (.int v8))) b (mx_i h5 381 0) ∧ bud h h5 ∧ ∃ vn vd vr vq np ns nl, Inv LWd h5 vn vd vr vq np ns nl := by
        intro h5 x U5 ex
        refine op_fin2 LWd_ok I (smr_tr (smr_tr (smr_tr s4 (smr_mdl hmd)) s3) (smr_U U5 (fun c hc => by unfold scr; omega))) (bud_r (bq_tr (bq_tr (bq_tr (bq_U U4) (bq_mdl hmd)) (bq_wi' e3)) (bq_U U5))) ⟨?_, ex⟩
        rw [mxU_i U5 (by decide)]; exact t3
      refine ⟨fun q => absurd (t3 ▸ q) (by decide), fun _ => ⟨by rw [m3]; exact C_rp C, ?_⟩⟩
      have e247 : V_247 r x0 = orS np (hrA r x0) := md_247 (C_np C) n6 x0
      have e195 : V_195 r (V_247 r x0) = nI c := by rw [e247, bits_orS (by omega), ← hce]
      rw [m3, e195, e247]
      have ef : fz (F_270_24 (mx_i h3 382) x1 (orS np (hrA r x0)) (nI c)) 0 np 0 = orS ns (wnA r x0 np) := by
        rw [fz_fo, m3]; exact wn_fold (C_ns C) n10 n6 np (Nat.le_refl _)
      refine lp_270_24 (s0 := 0) (n := np) 0 G3 (by rw [m3]; exact C_np C) (by omega) (by omega) (fun z _ hz => ⟨⟨fun _ => trivial, fun _ => ⟨by rw [m3]; exact C_rs C, trivial⟩⟩, trivial⟩) ?_
      rw [ef]
      obtain ⟨M, hM, eM⟩ := orS_nI n10 (wnA r x0 np)
      have M10 : M < 1024 := Nat.lt_of_lt_of_le hM (pow10 n10)
      have bM : ∀ z, z < 10 → (M.testBit z = true ↔ z < ns ∧ wnA r x0 np z = true) := by
        intro z hz
        rw [← bt_nI (by omega), ← eM, bt_orS (by omega) _ (by omega), Bool.and_eq_true, decide_eq_true_iff]
      refine ⟨fun q => ?_, fun q => ?_⟩
      · have c0 : c = 0 := (nI_eq (b := 0) (by omega) (by decide)).mp q
        have a7 := p0 c0
        refine fin h3 (-1) mxU_rfl ?_
        rw [e8]
        unfold V_12 V_13
        rw [a7]
        split <;> simp
      · have hc : 0 < c := by
          refine Nat.pos_of_ne_zero (fun z => q ?_)
          rw [z]; rfl
        obtain ⟨a7, ab, a114⟩ := pc hc
        have okl : okLb h3 (orS ns (wnA r x0 np)) (nI c) ns M c := ⟨⟨_, np, nl, by rw [m3]; exact C⟩, eM, M10, rfl, by omega⟩
        refine ⟨⟨(ns, M, c), okl⟩, fun x4 h5 u5 => ?_⟩
        obtain ⟨U5, w5⟩ := u5
        obtain ⟨u, hu, eu, iu⟩ := w5 ns M c okl
        rw [m3] at iu
        have el := lst_eq (w := wR r ns) (S := wnA r x0 np) (T := M.testBit) (N := ns) hc n10 bM (by rw [← hme]; exact ab) iu
        rw [← hme] at el
        have m5 : mx_i h5 382 = r := (mxU_i U5 (by decide)).trans m3
        have U5' : mxU (fun b => b = 388 ∨ b = 389 ∨ b = 390) h3 h5 := mxU_mono (fun b hb => by omega) U5
        refine ⟨fun q1 => ?_, fun q1 => ?_⟩
        · refine fin h5 x4 U5' ?_
          rw [e8, if_pos q1, eu, el]
          unfold V_12
          exact a7
        · rw [if_neg q1] at e8
          have eb : V_195 (mx_i h5 382) (orS ns (wnA r x0 np)) = nI m := by rw [bits_orS n10, ← hme]
          rw [eb]
          have n1 : ¬ mx_i h4 109 7 = -1 := by rw [a7]; exact nI_ne1 (by omega)
          by_cases ik : isI x1 (nI m)
          · rw [v191_y' (c := nI m) (nI0 (by omega)) rfl ik]
            refine ⟨fun z => absurd z (by decide), fun _ => ?_⟩
            obtain ⟨k, hk, rfl⟩ := isI_nI (by omega) ik
            -- rooms
            have G5 := mxU_G U5 G3
            have J : ∀ j i h6, i + j = c → mxU (fun b => b = 388 ∨ b = 389 ∨ b = 390) h3 h6 → (∀ t, t < i → mx_i h6 390 t = x4) → H_270_70 500 h6 (nI k) (orS np (hrA r x0)) (nI c) (orS ns (wnA r x0 np)) x4 (nI i) (fun o2 h2 => ∃ b, o2 = .inl (some (.int b)) ∧ ansOk (fun k => if k = 2 then 1 else 0) (.inl (some (.int v8))) b (mx_i h2 381 0) ∧ bud h h2 ∧ ∃ vn vd vr vq np ns nl, Inv LWd h2 vn vd vr vq np ns nl) := by
              intro j
              induction j with
              | zero =>
                intro i h6 hi U6 rm
                have hi' : i = c := by omega
                subst hi'
                have m6 : mx_i h6 382 = r := (mxU_i U6 (by decide)).trans m3
                refine tr_270_70 (mxU_G U6 G3) ⟨fun z => absurd z Int32.lt_irrefl, fun _ => ?_⟩
                have hkS : k < cN (wnA r x0 np) ns := by rw [← hme]; exact hk
                have eP : V_13 h4 (nI k) = nI (enB (hrA r x0) np (gp i (fun k => wR r ns (enB (wnA r x0 np) ns k)) m 0 (fun _ => 0) (fun _ => 0) k)) := by
                  unfold V_13
                  rw [if_neg n1, if_neg ik.1, p6, if_pos ik.2, nI_clamp (by omega)]
                  exact a114 k hk
                have gl : gp i (fun k => wR r ns (enB (wnA r x0 np) ns k)) m 0 (fun _ => 0) (fun _ => 0) k < i := gp_lt hc (fun _ => hc) (by omega)
                have bA : ∀ z, z < np → bt (orS np (hrA r x0)) z = hrA r x0 z := fun z hz => btS (by omega) hz
                rw [eM]
                have := H270w (d := 496) (h0 := h6) (r := r) (np := np) (ns := ns) (nl := nl) (S := wnA r x0 np) (c := i) (k := k) (B := u) (i3 := orS np (hrA r x0)) (P := gp i (fun k => wR r ns (enB (wnA r x0 np) ns k)) m 0 (fun _ => 0) (fun _ => 0)) (Q := fun o2 h2 => ∃ b, o2 = .inl (some (.int b)) ∧ ansOk (fun k => if k = 2 then 1 else 0) (.inl (some (.int v8))) b (mx_i h2 381 0) ∧ bud h h2 ∧ ∃ vn vd vr vq np ns nl, Inv LWd h2 vn vd vr vq np ns nl) C m6 hc (by omega) (by omega) hkS (fun h' U' => ?_) (k + 1) 0 h6 (fun _ => 0) (fun _ => 0) M 0 (by omega) (mxU_G U6 G3) mxU_rfl (fun t ht => by rw [rm t ht, eu]; rfl) (by rw [Nat.sub_zero, ← hme]; exact el.symm) (by rw [Nat.sub_zero, ← hme]) ⟨M10, fun z hz => ?_⟩ (fun z => absurd z (by omega))
                · rw [eM] at this
                  exact this
                · refine fin h' _ (mxU_tr U6 (mxU_mono (fun b hb => by omega) U')) ?_
                  rw [e8, eP, kth_en (N := np) (by omega) (by rw [cN_cg bA, ← hce]; exact gl), enB_cg bA]
                · rw [bM z hz]
                  constructor
                  · rintro ⟨a, b⟩
                    have w := enB_at a b
                    exact ⟨_, Nat.zero_le _, w.1, w.2.symm⟩
                  · rintro ⟨y, _, hy, rfl⟩
                    have w := enB_ok hy
                    exact ⟨w.1, w.2.1⟩
              | succ j ih =>
                intro i h6 hi U6 rm
                refine tr_270_70 (mxU_G U6 G3) ⟨fun _ => ⟨vp_in_nI (by omega) (by decide), fun h7 e7 => ?_⟩, fun z => absurd (nI_lt (by omega) (by omega)) z⟩
                rw [nI_clamp (by omega)] at e7
                rw [nI_1]
                refine ih (i + 1) h7 (by omega) (mxU_tr U6 (mxU_wi' e7 (by omega))) (fun t ht => ?_)
                rw [e7, wi_row]
                by_cases z : t = i
                · rw [if_pos z]
                · rw [if_neg z]; exact rm t (by omega)
            exact J c 0 h5 (by omega) U5' (fun t ht => by omega)
          · rw [v191_n' (c := nI m) (nI0 (by omega)) rfl ik]
            refine ⟨fun _ => fin h5 (-1) U5' ?_, fun z => absurd rfl z⟩
            rw [e8]
            unfold V_13
            rw [if_neg n1, p6]
            by_cases z : x1 < 0
            · rw [if_pos z]
            · rw [if_neg z, if_neg (fun y => ik ⟨z, y⟩)]
  · have em : mx_i hm 382 = mx_i h 382 := by rw [hmd.2.2.2.1]; rfl
    refine tr_270_0 (smr_G (smr_mdl (vd := vd) (vr := vr) (vq := vq) hmd) (mxG_ex I.1)) ⟨v01, fun v2 e2 h3 e3 => ?_⟩
    have t2 : v2 = 1 := by
      unfold V_202 at e2
      rw [v191_n' (c := 12) (e := 11) (by decide) (by decide) ci] at e2
      simpa using e2
    subst t2
    subst e3
    rw [thr0]
    refine ⟨fun _ => op_fin LWd_ok I (smr_tr smr_ex (smr_mdl hmd)) (bud_ex hmd) ⟨rfl, by decide⟩, fun q => absurd (by decide) q⟩
theorem goal_all : mx_goal := goal_of (all_ops op_share)
