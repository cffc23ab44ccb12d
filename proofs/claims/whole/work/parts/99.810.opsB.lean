/-! OPS B: hours, first -/
def mix (p : Nat → Bool) (h h' : mxH) : mxH := (h.1, h.2.1, h.2.2.1, fun b => if p b = true then mx_i h' b else mx_i h b, mx_r h, mx_l h)
theorem mix_y {p : Nat → Bool} {h h' : mxH} {b : Nat} (e : p b = true) : mx_i (mix p h h') b = mx_i h' b := if_pos e
theorem mix_n {p : Nat → Bool} {h h' : mxH} {b : Nat} (e : ¬ p b = true) : mx_i (mix p h h') b = mx_i h b := if_neg e
theorem mix_U {p : Nat → Bool} {h h' : mxH} : mxU (fun b => p b = true) h (mix p h h') := ⟨rfl, rfl, rfl, rfl, rfl, fun b hb => mix_n hb⟩
/-- an act of hours: both remember, then the valley goes on in both -/
theorem Inv_hrs {h h1 h' hm h2 h8 h13 : mxH} {vn vd vr vq np ns nl : Nat} (I : Inv LWd h vn vd vr vq np ns nl) (R1 : rmC vn h h1) (u1 : mxU (inHr vn vr) h1 h') (hmd : mdl h' hm) (e2 : h2 = mx_wi hm 381 0 0) (R8 : rmM h2 h8) (u13 : frW h8 h13) (hr : ∀ k, k = 1 ∨ k = 2 ∨ (369 ≤ k ∧ k < 769) → mx_i h13 382 k = mx_i h8 382 k) (C : CpN (vw h' vn) (mx_i h13 382) np ns nl) : Inv LWd h13 vn vd vr vq np ns nl := by
  have S := I.2.1
  have b0 := S_ne S
  have b1 := S_lt S
  have bq0 := S.2.2.2.2.2.1
  let hmS := mix (fun b => decide (vn ≤ b ∧ b < vn + 16)) h1 h'
  let h3S := mx_wi hmS 381 0 0
  let h4S := mix (fun b => decide (b = 381 ∨ b = 385)) h3S h8
  let h5S := mix (fun b => decide (b = 382)) h4S h13
  have cm : ∀ b, ¬ (vn ≤ b ∧ b < vn + 16) → mx_i hmS b = mx_i h1 b := fun b hb => mix_n (by simpa using hb)
  have cy : ∀ b, (vn ≤ b ∧ b < vn + 16) → mx_i hmS b = mx_i h' b := fun b hb => mix_y (by simpa using hb)
  have c2 : ∀ b, b ≠ 381 → mx_i h2 b = mx_i h' b := fun b hb => by rw [e2, wi_ne hb, md_382 hmd]
  have c1 : ∀ b, ¬ inHr vn vr b → mx_i h' b = mx_i h1 b := fun b hb => mxU_i u1 hb
  have n381 : ¬ inHr vn vr 381 := by unfold inHr; omega
  have n382 : ¬ inHr vn vr 382 := by unfold inHr; omega
  have n385 : ¬ inHr vn vr 385 := by unfold inHr; omega
  have e381 : mx_i h3S 381 = mx_i h2 381 := by
    funext j
    show mx_i (mx_wi hmS 381 0 0) 381 j = _
    rw [e2, wi_row, wi_row, cm 381 (by omega), md_382 hmd, c1 381 n381]
  have e382 : mx_i h3S 382 = mx_i h2 382 := by
    show mx_i (mx_wi hmS 381 0 0) 382 = _
    rw [wi_ne (by decide), cm 382 (by omega), c2 382 (by decide), c1 382 n382]
  have e385 : mx_i h3S 385 = mx_i h2 385 := by
    show mx_i (mx_wi hmS 381 0 0) 385 = _
    rw [wi_ne (by decide), cm 385 (by omega), c2 385 (by decide), c1 385 n385]
  have m381 : mx_i h4S 381 = mx_i h8 381 := mix_y (by decide)
  have m385 : mx_i h4S 385 = mx_i h8 385 := mix_y (by decide)
  have m4 : ∀ b, b ≠ 381 → b ≠ 385 → mx_i h4S b = mx_i h3S b := fun b x y => mix_n (by simp [x, y])
  have m3 : ∀ b, b ≠ 381 → mx_i h3S b = mx_i hmS b := fun b x => wi_ne x
  have R4 : rmM h3S h4S := by
    obtain ⟨r1, r2, r3⟩ := R8
    refine ⟨mxU_mono (fun b hb => by simpa using hb) mix_U, fun j hj => ?_, fun c hc => ?_⟩
    · rw [m381, e381]; exact r2 j hj
    · rw [m381, m385, e385, e382]
      exact r3 c (by rw [← e381]; exact hc)
  have I5 : Inv LWd h5S vn vd vr vq np ns nl := by
    refine Inv_act LWd_ok I R1 (hm := hmS) (h3 := h3S) (h4 := h4S) (h5 := h5S) (agr_U (mxU_mono (fun b hb => by simpa using hb) mix_U)) (agr_wi rfl) (fun j hj => wi_nj hj) R4 (agr_U (mxU_mono (fun b hb => by simpa using hb) mix_U)) (fun k hk => ?_) ?_
    · have : mx_i h5S 382 = mx_i h13 382 := mix_y (by decide)
      rw [this, hr k hk, m4 382 (by decide) (by decide), e382, mxU_i R8.1 (by decide)]
    · have : mx_i h5S 382 = mx_i h13 382 := mix_y (by decide)
      rw [this]
      refine CpN_congr (fun k j hk => ?_) (fun _ _ _ _ => rfl) C
      have hk16 : k < 16 := by unfold inV at hk; omega
      show mx_i h5S (vn + k) j = mx_i h' (vn + k) j
      have : mx_i h5S (vn + k) = mx_i h4S (vn + k) := mix_n (by simp; omega)
      rw [this, m4 _ (by omega) (by omega), m3 _ (by omega), cy _ (by omega)]
  refine Inv_smr LWd_ok (h := h5S) ?_ I5
  have all : ∀ b, b ≠ 381 → b ≠ 387 → b ≠ 382 → b ≠ 385 → b ≠ vr + 5 → b ≠ vr + 6 → mx_i h13 b = mx_i h5S b := fun b x1 x2 x3 x4 x5 x6 => by
    have a5 : mx_i h5S b = mx_i h4S b := mix_n (by simp [x3])
    rw [u13.2.1 b x1 x2 x3, mxU_i R8.1 (by omega), c2 b x1, a5, m4 b x1 x4, m3 b x1]
    by_cases q : vn ≤ b ∧ b < vn + 16
    · rw [cy b q]
    · rw [cm b q, c1 b (by unfold inHr; omega)]
  refine ⟨?_, fun b hb => ?_, fun b hb => ?_, ?_, fun k hk => ?_⟩
  · rw [u13.1.1, R8.1.1, e2]
    show mx_c hm = mx_c h1
    rw [hmd.1, u1.1]
  · rw [u13.1.2.2.2.1, R8.1.2.2.2.1, e2]
    show mx_r hm b = mx_r h1 b
    rw [hmd.2.2.2.2, u1.2.2.2.1]
  · by_cases q : b = 382
    · rw [q]; exact (mix_y (by decide)).symm
    · by_cases q5 : b = 385
      · subst q5
        have : mx_i h5S 385 = mx_i h4S 385 := mix_n (by decide)
        rw [this, m385, u13.2.1 385 (by decide) (by decide) (by decide)]
      · unfold scr at hb
        exact all b (by omega) (by omega) q q5 (by omega) (by omega)
  · rw [all 101 (by decide) (by decide) (by decide) (by decide) (by omega) (by omega)]
  · have : mx_i h5S 381 = mx_i h4S 381 := mix_n (by decide)
    rw [this, m381, u13.2.2 k (by omega)]
theorem H151 {d vn vd vr vq np ns nl n : Nat} {h0 : mxH} {Q : mxO → mxH → Prop} {W : Option (List LL)} {r : Nat → Int32} (hn : n ≤ 200) (hVd : (mxT vn).1 = 9) (hVr : (mxT vr).1 = 3) (L0 : LC (lw h0 vr) W) (fin : ∀ h1, mxU (inHr vn vr) h0 h1 → CpN (vw h1 vn) (hrI W 1 np ns n r).1 np ns nl → Q (.inl (some (.int (hrI W 1 np ns n r).2))) h1) : ∀ (m i : Nat) (h : mxH), m + i = n → mxG h → mxS h vn vd vr vq → mxU (inHr vn vr) h0 h → CpN (vw h vn) (hrI W 1 np ns i r).1 np ns nl → H_151_17 (d + 5) h (nI n) (hrI W 1 np ns i r).2 (nI i) Q := by
  have dj := vl_ne hVd hVr
  intro m
  induction m with
  | zero =>
    intro i h hm G S U C
    have hi : i = n := by omega
    subst hi
    exact tr_151_17 G S ⟨fun c => absurd c Int32.lt_irrefl, fun _ => fin h U C⟩
  | succ m ih =>
    intro i h hm G S U C
    have hin : i < n := by omega
    have L : LC (lw h vr) W := LC_U U (fun k hk q => by unfold inHr at q; omega) L0
    refine tr_151_17 G S ⟨fun _ => ⟨⟨(W, _, np, ns, nl), C, L⟩, fun x3 h4 u4 => ?_⟩, fun c => absurd (nI_lt hin (by omega)) c⟩
    obtain ⟨o1, o2⟩ := u4.2 W _ np ns nl C L
    rw [nI_1, o2]
    exact ih (i + 1) h4 (by omega) (mxU_G u4.1 G) (mxU_S u4.1 S) (mxU_tr U u4.1) o1
theorem op_hours (i1 : Int32) : Op LWd 151 261 [.int i1] (fun k => if k = 0 then 1 else 0) := by
  intro h vn vd vr vq np ns nl I
  have ok := LWd_ok
  have C := I.2.2.1
  have S := I.2.1
  obtain ⟨W, LC0, LR0⟩ := I.2.2.2.1
  have b0 := S_ne S
  obtain ⟨rf, rc, ra⟩ := I_rem I
  have no : (i1 < 1 ∨ 100 < i1) → ∀ hm, mdl (mx_ex h) hm → mx_wp 500 261 0 (mx_fr 261 [.ref 381, .int i1]) [] hm (fun o2 h2 => ∃ b, o2 = .inl (some (.int b)) ∧ ansOk (fun k => if k = 0 then 1 else 0) (.inr 0) b (mx_i h2 381 0) ∧ bud h h2 ∧ ∃ vn vd vr vq np ns nl, Inv LWd h2 vn vd vr vq np ns nl) := by
    intro hc hm hmd
    refine tr_261_0 (agr_G (P := fun _ => False) (agr_mdl hmd) (mxG_ex I.1)) (fun v1 e1 h2 e2 => ?_)
    rw [v191_nB hc, if_pos rfl] at e1
    subst e1
    subst e2
    rw [thr0]
    exact ⟨fun _ => op_fin ok I (smr_tr smr_ex (smr_mdl hmd)) (bud_ex hmd) ⟨rfl, by decide⟩, fun q => absurd (by decide) q⟩
  refine tr_151_0 I.1 S ⟨fun c => no (.inl c), fun c => ⟨fun c2 => no (.inr c2), fun c2 => ⟨rf, rc, fun h6 R1 => ?_⟩⟩⟩
  have ir : isR i1 0 100 := ⟨by grind, by grind⟩
  obtain ⟨n, hn, rfl⟩ := isR_N (B := 100) (by decide) ir
  have G6 := mxU_G R1.1 I.1
  have S6 := mxU_S R1.1 S
  have C6 : CpN (vw h6 vn) (mx_i h 382) np ns nl := CpN_U R1.1 (fun k hk q => by omega) C
  have L6 : LC (lw h6 vr) W := LC_U R1.1 (fun k hk q => by omega) LC0
  refine H151 (W := W) (r := mx_i h 382) (np := np) (ns := ns) (nl := nl) (vd := vd) (vq := vq) (h0 := h6) (by omega) (mxS_vn S) (mxS_vr S) L6 (fun h' u1 C' => ?_) n 0 h6 rfl G6 S6 mxU_rfl C6
  intro hm hmd
  have m' : mx_i h' 382 = mx_i h 382 := by rw [mxU_i u1 (by unfold inHr; omega), R1_hi R1 (by omega)]
  have em : mx_i hm 382 = mx_i h 382 := (md_382 hmd 382).trans m'
  refine tr_261_0 (agr_G (P := fun _ => False) (agr_mdl hmd) (mxU_G u1 G6)) (fun v1 e1 h2 e2 => ?_)
  rw [v191_yB ⟨c, c2⟩, if_neg (by decide)] at e1
  subst e1
  have t2 : mx_i h2 381 0 = 0 := by rw [e2, thr0]
  have m2 : mx_i h2 382 = mx_i h 382 := by rw [e2, thr382]; exact em
  have a2 : mx_i h2 381 6 = mx_i h 381 6 := by rw [e2, wi_nj (by decide), md_382 hmd, mxU_i u1 (by unfold inHr; omega), R1_hi R1 (by omega)]
  rw [t2]
  refine ⟨fun q => absurd q (by decide), fun _ => ⟨a2 ▸ ra, fun h8 R8 => ?_⟩⟩
  have m8 : mx_i h8 382 = mx_i h 382 := (mxU_i R8.1 (by decide)).trans m2
  have Rk : Rok (mx_i h8 382) np ns nl := by rw [m8]; exact ⟨_, C⟩
  have L8 : LR (mx_i h8 382) W := by rw [m8]; exact LR0
  refine ⟨⟨(W, np, ns, nl, n), Rk, L8, by show n ≤ 200; omega, rfl⟩, fun x12 h13 u13 => ?_⟩
  obtain ⟨o1, o2⟩ := u13.2 W np ns nl n Rk L8 (by omega) rfl
  rw [m8] at o1 o2
  refine ⟨x12, rfl, ⟨?_, o2.symm⟩, ?_, vn, vd, vr, vq, np, ns, nl, ?_⟩
  · rw [u13.1.2.2 0 (by omega), R8.2.1 0 (by decide)]; exact t2
  · exact bud_bq (bq_tr (bq_U R1.1) (bq_tr (bq_U u1) (bq_tr (bq_mdl hmd) (bq_tr (bq_wi' e2) (bq_tr (bq_U R8.1) (bq_K u13.1.1))))))
  · refine Inv_hrs I R1 u1 hmd e2 R8 u13.1 (fun k hk => ?_) (by rw [o1]; exact C')
    rw [o1, m8]
    exact hrI_off (C_np6 C) (C_ns10 C) (by unfold offR; omega) n
/-! the first hour in which one can pay -/
def canP (r : Nat → Int32) (x : Nat) : Bool := !decide (r (33 + 6 * x + 0) < V_204 r (V_243 r (nI x) 0))
theorem canP_y {r : Nat → Int32} {x : Nat} (c : ¬ r (33 + 6 * x + 0) < V_204 r (V_243 r (nI x) 0)) : canP r x = true := by unfold canP; rw [decide_eq_false c]; rfl
theorem canP_n {r : Nat → Int32} {x : Nat} (c : r (33 + 6 * x + 0) < V_204 r (V_243 r (nI x) 0)) : ¬ canP r x = true := by unfold canP; rw [decide_eq_true c]; decide
def fiN (p : Nat → Bool) : Nat → Nat → Int32
  | 0, _ => -1
  | k + 1, n => if p n = true then nI n else fiN p k (n + 1)
theorem hrX_1 {W : Option (List LL)} {dr : Int32} {np ns i : Nat} {r : Nat → Int32} : hrX W dr np ns 1 (hrX W dr np ns i r) = hrX W dr np ns (i + 1) r := rfl
theorem H169 {d vn vd vr vq np ns nl x : Nat} {h0 : mxH} {Q : mxO → mxH → Prop} {W : Option (List LL)} {r : Nat → Int32} {y : Int32} (hx : x < np) (hVd : (mxT vd).1 = 9) (hVr : (mxT vr).1 = 3) (L0 : LC (lw h0 vr) W) (fin : ∀ h1, mxU (inHr vd vr) h0 h1 → Q (.inl (some (.int y))) h1) : ∀ (m i : Nat) (h : mxH), m + i = 201 → mxG h → mxS h vn vd vr vq → mxU (inHr vd vr) h0 h → CpN (vw h vd) (hrX W 0 np ns i r) np ns nl → fiN (fun n => canP (hrX W 0 np ns n r) x) m i = y → H_169_10 (d + 5) h (nI x) (nI i) Q := by
  have dj := vl_ne hVd hVr
  intro m
  induction m with
  | zero =>
    intro i h hm G S U C hy
    have hi : i = 201 := by omega
    subst hi
    have hy : -1 = y := hy
    refine tr_169_10 G S ⟨fun _ => by rw [hy]; exact fin h U, fun c => absurd (by decide) c⟩
  | succ m ih =>
    intro i h hm G S U C hy
    have h6 := C_np6 C
    have hin : i ≤ 200 := by omega
    have L : LC (lw h vr) W := LC_U U (fun k hk q => by unfold inHr at q; omega) L0
    have nc : (nI x).toNatClampNeg = x := nI_clamp (by omega)
    refine tr_169_10 G S ⟨fun c => absurd ((nI_ltI (a := 200) (by decide) (by omega)).mp c) (by omega), fun _ => ⟨vp_in_nI (by omega) (by decide), C_cs C, ?_⟩⟩
    rw [nc, Cu2 C hx, cm_owedBy C]
    refine ⟨fun c => ⟨⟨(W, _, np, ns, nl), C, L⟩, fun x6 h7 u7 => ?_⟩, fun c => ?_⟩
    · rw [nI_1]
      refine ih (i + 1) h7 (by omega) (mxU_G u7.1 G) (mxU_S u7.1 S) (mxU_tr U u7.1) ?_ ?_
      · rw [hrX_s]; exact (u7.2 W _ np ns nl C L).1
      · rw [← hy]
        have : ¬ canP (hrX W 0 np ns i r) x = true := canP_n c
        show _ = if canP (hrX W 0 np ns i r) x = true then _ else _
        rw [if_neg this]
    · have : canP (hrX W 0 np ns i r) x = true := canP_y c
      have hy : (if canP (hrX W 0 np ns i r) x = true then nI i else fiN (fun n => canP (hrX W 0 np ns n r) x) m (i + 1)) = y := hy
      rw [if_pos this] at hy
      rw [hy]
      exact fin h U
theorem H274 {d np ns nl x : Nat} {h0 : mxH} {Q : mxO → mxH → Prop} {W : Option (List LL)} {r : Nat → Int32} {y : Int32} (hx : x < np) (R0 : Rok r np ns nl) (L0 : LR r W) (fin : ∀ h1 h2, frW h0 h1 → (∀ k, 369 ≤ k → mx_i h1 382 k = r k) → h2 = W_226 h1 → Q (.inl (some (.int y))) h2) : ∀ (m i : Nat) (h : mxH), m + i = 201 → mxG h → frW h0 h → mx_i h 382 = hrX W 0 np ns i r → fiN (fun n => canP (hrX W 0 np ns n r) x) m i = y → H_274_20 (d + 36) h (nI x) (-1) (nI i) Q := by
  have nn : np ≤ 6 ∧ ns ≤ 10 := by obtain ⟨v, C⟩ := R0; exact ⟨C_np6 C, C_ns10 C⟩
  have hW := LR_b L0
  have off : ∀ i k, 369 ≤ k → hrX W 0 np ns i r k = r k := fun i k hk => hrI_off nn.1 nn.2 (by unfold offR; omega) i
  intro m
  induction m with
  | zero =>
    intro i h hm G U e hy
    have hi : i = 201 := by omega
    subst hi
    have hy : -1 = y := hy
    refine tr_274_20 G ⟨fun _ h2 e2 => by rw [hy]; exact fin h h2 U (fun k hk => by rw [e]; exact off _ k hk) e2, fun c => absurd (by decide) c⟩
  | succ m ih =>
    intro i h hm G U e hy
    have R : Rok (mx_i h 382) np ns nl := by rw [e]; exact hrI_ok hW R0 i
    have L : LR (mx_i h 382) W := LR_off L0 (fun k hk => by rw [e]; exact hrI_off nn.1 nn.2 hk i)
    have R1 := R
    obtain ⟨v, C⟩ := R
    have hy : (if canP (hrX W 0 np ns i r) x = true then nI i else fiN (fun n => canP (hrX W 0 np ns n r) x) m (i + 1)) = y := hy
    refine tr_274_20 G ⟨fun c => absurd ((nI_ltI (a := 200) (by decide) (by omega)).mp c) (by omega), fun _ => ⟨fun _ => ⟨vpU (by omega), C_rs C, ⟨by decide, by decide⟩, fun v14 e14 => ?_⟩, fun q => absurd rfl q⟩⟩
    refine ⟨⟨(W, np, ns, nl, 1), R1, L, by show 1 ≤ 200; omega, rfl⟩, fun x16 h17 u17 => ?_⟩
    have o := (u17.2 W np ns nl 1 R1 L (by omega) rfl).1
    rw [hrX_I, e, hrX_1] at o
    rw [u0 (by omega), e] at e14
    have G17 := mxK_G u17.1.1 G
    have U17 := frW_tr U u17.1
    by_cases c : hrX W 0 np ns i r (33 + 6 * x + 0) < V_204 (hrX W 0 np ns i r) (V_243 (hrX W 0 np ns i r) (nI x) 0)
    · rw [if_pos c] at e14
      have : ¬ canP (hrX W 0 np ns i r) x = true := canP_n c
      rw [if_neg this] at hy
      rw [e14, nI_1]
      exact ih (i + 1) h17 (by omega) G17 U17 o hy
    · rw [if_neg c] at e14
      have : canP (hrX W 0 np ns i r) x = true := canP_y c
      rw [if_pos this] at hy
      rw [e14, nI_1, hy]
      have ne : ¬ y = -1 := by rw [← hy]; exact nI_ne1 (by omega)
      by_cases q : (200 : Int32) < nI (i + 1)
      · exact tr_274_20 G17 ⟨fun _ h2 e2 => fin h17 h2 U17 (fun k hk => by rw [o]; exact off _ k hk) e2, fun z => absurd q z⟩
      · exact tr_274_20 G17 ⟨fun z => absurd z q, fun _ => ⟨fun z => absurd z ne, fun _ h7 e7 => fin h17 h7 U17 (fun k hk => by rw [o]; exact off _ k hk) e7⟩⟩
theorem op_first (i1 : Int32) : Op LWd 169 274 [.int i1] (fun k => if k = 2 then 1 else 0) := by
  intro h vn vd vr vq np ns nl I
  have ok := LWd_ok
  have C := I.2.2.1
  have S := I.2.1
  obtain ⟨W, LC0, LR0⟩ := I.2.2.2.1
  have b0 := S_ne S
  have h6 := C_np6 C
  have n0 : (0 : Int32) ≤ mx_i h 382 3 := C_np C ▸ nI0 (by omega)
  refine tr_169_0 I.1 S ⟨fun c => ?_, fun c hm hmd => ?_⟩
  · rw [C_p C] at c
    have c' : isI i1 (mx_i h 382 3) := by rw [C_np C]; exact c
    obtain ⟨x, hx, rfl⟩ := isI_nI (by omega) c
    intro h3 u3
    have U3 : mxU (inHr vd vr) h h3 := cp_in u3
    refine H169 (W := W) (r := mx_i h 382) (np := np) (ns := ns) (nl := nl) (vn := vn) (vq := vq) (h0 := h) (y := fiN (fun n => canP (hrX W 0 np ns n (mx_i h 382)) x) 201 0) hx (mxS_vd S) (mxS_vr S) LC0 (fun h' u' => ?_) 201 0 h3 rfl (mxU_G U3 I.1) (mxU_S U3 S) U3 (cp_CpN u3 C) rfl
    intro hm hmd
    have m' : mx_i h' 382 = mx_i h 382 := mxU_i u' (by unfold inHr; omega)
    have em : mx_i hm 382 = mx_i h 382 := (md_382 hmd 382).trans m'
    refine tr_274_0 (agr_G (P := fun _ => False) (agr_mdl hmd) (mxU_G u' I.1)) ⟨v01, fun v2 e2 h3 e3 => ?_⟩
    have e2 : v2 = 0 := by
      rw [em] at e2
      unfold V_200 at e2
      rw [v191_y n0 c'] at e2; simpa using e2
    subst e2
    have t3 : mx_i h3 381 0 = 0 := by rw [e3, thr0]
    rw [t3]
    refine ⟨fun q => absurd q (by decide), fun _ h7 e7 => ?_⟩
    have m7 : mx_i h7 382 = mx_i h 382 := by rw [e7, mxU_i W225_p.1 (by decide), e3, thr382]; exact em
    have G7 : mxG h7 := by
      rw [e7]
      refine mxU_G W225_p.1 ?_
      rw [e3]
      exact mxG_wi (agr_G (P := fun _ => False) (agr_mdl hmd) (mxU_G u' I.1))
    refine H274 (W := W) (r := mx_i h 382) (np := np) (ns := ns) (nl := nl) (h0 := h7) (y := fiN (fun n => canP (hrX W 0 np ns n (mx_i h 382)) x) 201 0) hx ⟨_, C⟩ LR0 (fun h1 h2 U1 o1 e2' => ?_) 201 0 h7 rfl G7 frW_rfl m7 rfl
    obtain ⟨s17, t17, q17⟩ := smr_look (S_lt S) e3 e7 U1 (fun k hk => by rw [m7]; exact o1 k hk) e2'
    exact op_fin2 ok I (smr_tr (smr_tr (smr_hr S u') (smr_mdl hmd)) s17) (bud_r (bq_tr (bq_tr (bq_U u') (bq_mdl hmd)) q17)) ⟨t17, rfl⟩
  · rw [C_p C, ← C_np C] at c
    have em : mx_i hm 382 = mx_i h 382 := md_382 hmd 382
    refine tr_274_0 (agr_G (P := fun _ => False) (agr_mdl hmd) (mxG_ex I.1)) ⟨v01, fun v2 e2 h3 e3 => ?_⟩
    have e2 : v2 = 1 := by
      rw [em] at e2
      unfold V_200 at e2
      rw [v191_n n0 c] at e2; simpa using e2
    subst e2
    subst e3
    rw [thr0]
    exact ⟨fun _ => op_fin ok I (smr_tr smr_ex (smr_mdl hmd)) (bud_ex hmd) ⟨rfl, by decide⟩, fun q => absurd (by decide) q⟩
