/-! SPECS by hand, 26: hours ahead (the class); the row put aside (the reference) -/
theorem cp_CpN {h h1 : mxH} {vd vn np ns nl : Nat} {r : Nat → Int32} (u : cpR 0 16 vd vn h h1) (C : CpN (vw h vn) r np ns nl) : CpN (vw h1 vd) r np ns nl := CpN_congr (fun k j hk => by
  show mx_i h1 (vd + k) j = mx_i h (vn + k) j
  exact u.2 k j hk (Nat.zero_le _) (by unfold inV at hk; omega)) (fun _ _ _ _ => rfl) C
theorem cp_in {h h1 : mxH} {vd vn vr : Nat} (u : cpR 0 16 vd vn h h1) : mxU (inHr vd vr) h h1 := mxU_mono (fun c hc => by unfold inHr; omega) u.1
/-- a loop of hours in a valley -/
def hrX (W : Option (List LL)) (dr : Int32) (np ns n : Nat) (r : Nat → Int32) : Nat → Int32 := (hrI W dr np ns n r).1
theorem hrX_s {W : Option (List LL)} {dr : Int32} {np ns n : Nat} {r : Nat → Int32} : hrX W dr np ns (n + 1) r = (hrS W dr np ns (hrX W dr np ns n r)).1 := rfl
theorem hrX_0 {W : Option (List LL)} {dr : Int32} {np ns : Nat} {r : Nat → Int32} : hrX W dr np ns 0 r = r := rfl
theorem hrX_I {W : Option (List LL)} {dr : Int32} {np ns n : Nat} {r : Nat → Int32} : (hrI W dr np ns n r).1 = hrX W dr np ns n r := rfl
def PG (h : mxH) (vn vr : Nat) (i1 : Int32) (q : A22) : Prop := CpN (vw h vn) q.2.1 q.2.2.1 q.2.2.2.1 q.2.2.2.2.1 ∧ LC (lw h vr) q.1 ∧ q.2.2.2.2.2 ≤ 200 ∧ i1 = nI q.2.2.2.2.2
def okG (h : mxH) (vn vr : Nat) (i1 : Int32) : Prop := ∃ q, PG h vn vr i1 q
def p175 (vn vd vr : Nat) (i1 : Int32) (h h1 : mxH) : Prop := mxU (inHr vd vr) h h1 ∧ ∀ W r np ns nl n, CpN (vw h vn) r np ns nl → LC (lw h vr) W → n ≤ 200 → i1 = nI n → CpN (vw h1 vd) (hrX W 0 np ns n r) np ns nl
theorem H175 {d vn vd vr vq np ns nl n : Nat} {h0 : mxH} {Q : mxO → mxH → Prop} {W : Option (List LL)} {r : Nat → Int32} (hn : n ≤ 200) (hVd : (mxT vd).1 = 9) (hVr : (mxT vr).1 = 3) (L0 : LC (lw h0 vr) W) (fin : ∀ h1, mxU (inHr vd vr) h0 h1 → CpN (vw h1 vd) (hrX W 0 np ns n r) np ns nl → Q (.inl none) h1) : ∀ (m i : Nat) (h : mxH), m + i = n → mxG h → mxS h vn vd vr vq → mxU (inHr vd vr) h0 h → CpN (vw h vd) (hrX W 0 np ns i r) np ns nl → H_175_7 (d + 5) h (nI n) (nI i) Q := by
  have dj := vl_ne hVd hVr
  intro m
  induction m with
  | zero =>
    intro i h hm G S U C
    have hi : i = n := by omega
    subst hi
    exact tr_175_7 G S ⟨fun c => absurd c Int32.lt_irrefl, fun _ => fin h U C⟩
  | succ m ih =>
    intro i h hm G S U C
    have hin : i < n := by omega
    have L : LC (lw h vr) W := LC_U U (fun k hk q => by unfold inHr at q; omega) L0
    refine tr_175_7 G S ⟨fun _ => ⟨⟨(W, _, np, ns, nl), C, L⟩, fun x3 h4 u4 => ?_⟩, fun c => absurd (nI_lt hin (by omega)) c⟩
    rw [nI_1]
    refine ih (i + 1) h4 (by omega) (mxU_G u4.1 G) (mxU_S u4.1 S) (mxU_tr U u4.1) ?_
    rw [hrX_s]
    exact (u4.2 W _ np ns nl C L).1
theorem sp_175 {d : Nat} {h : mxH} {Q : mxO → mxH → Prop} {i1 : Int32} {vn vd vr vq : Nat} (G : mxG h) (S : mxS h vn vd vr vq) (ok : okG h vn vr i1) (k : ∀ h1, p175 vn vd vr i1 h h1 → Q (.inl none) h1) : mx_wp (d + 5) 175 0 (mx_fr 175 [.ref 100, .int i1]) [] h Q := by
  refine all_mv (F := mxU (inHr vd vr) h) (R := fun q h1 => CpN (vw h1 vd) (hrX q.1 0 q.2.2.1 q.2.2.2.1 q.2.2.2.2.2 q.2.1) q.2.2.1 q.2.2.2.1 q.2.2.2.2.1) ok (fun q pq => ?_) (fun h1 f r => k h1 ⟨f, fun W r' np ns nl n a1 a2 a3 a4 => by
    have z := r (W, r', np, ns, nl, n) ⟨a1, a2, a3, a4⟩
    dsimp only at z
    exact z⟩)
  obtain ⟨W, r, np, ns, nl, n⟩ := q
  obtain ⟨C, L, hn, en⟩ := pq
  have C : CpN (vw h vn) r np ns nl := C
  have L : LC (lw h vr) W := L
  have hn : n ≤ 200 := hn
  have en : i1 = nI n := en
  dsimp only
  subst en
  have hVd := mxS_vd S
  have hVr := mxS_vr S
  have dj := vl_ne hVd hVr
  refine tr_175_0 G S (fun h2 u2 => ?_)
  have U2 : mxU (inHr vd vr) h h2 := cp_in u2
  exact H175 (W := W) (r := r) (np := np) (ns := ns) (nl := nl) (vn := vn) (vq := vq) (h0 := h) hn hVd hVr L (fun h1 U C => ⟨rfl, U, C⟩) n 0 h2 rfl (mxU_G U2 G) (mxU_S U2 S) U2 (cp_CpN u2 C)
def p176 (vn vd vr : Nat) (i1 i2 : Int32) (h h1 : mxH) : Prop := mxU (inHr vd vr) h h1 ∧ ∀ W r np ns nl n, CpN (vw h vn) r np ns nl → LC (lw h vr) W → n ≤ 200 → i1 = nI n → CpN (vw h1 vd) (hrX W 1 np ns n (rs r 8 i2)) np ns nl
theorem H176 {d vn vd vr vq np ns nl n : Nat} {h0 : mxH} {Q : mxO → mxH → Prop} {W : Option (List LL)} {r : Nat → Int32} (hn : n ≤ 200) (hVd : (mxT vd).1 = 9) (hVr : (mxT vr).1 = 3) (L0 : LC (lw h0 vr) W) (fin : ∀ h1, mxU (inHr vd vr) h0 h1 → CpN (vw h1 vd) (hrX W 1 np ns n r) np ns nl → Q (.inl none) h1) : ∀ (m i : Nat) (h : mxH), m + i = n → mxG h → mxS h vn vd vr vq → mxU (inHr vd vr) h0 h → CpN (vw h vd) (hrX W 1 np ns i r) np ns nl → H_176_11 (d + 5) h (nI n) (nI i) Q := by
  have dj := vl_ne hVd hVr
  intro m
  induction m with
  | zero =>
    intro i h hm G S U C
    have hi : i = n := by omega
    subst hi
    exact tr_176_11 G S ⟨fun c => absurd c Int32.lt_irrefl, fun _ => fin h U C⟩
  | succ m ih =>
    intro i h hm G S U C
    have hin : i < n := by omega
    have L : LC (lw h vr) W := LC_U U (fun k hk q => by unfold inHr at q; omega) L0
    refine tr_176_11 G S ⟨fun _ => ⟨⟨(W, _, np, ns, nl), C, L⟩, fun x3 h4 u4 => ?_⟩, fun c => absurd (nI_lt hin (by omega)) c⟩
    rw [nI_1]
    refine ih (i + 1) h4 (by omega) (mxU_G u4.1 G) (mxU_S u4.1 S) (mxU_tr U u4.1) ?_
    rw [hrX_s]
    exact (u4.2 W _ np ns nl C L).1
theorem sp_176 {d : Nat} {h : mxH} {Q : mxO → mxH → Prop} {i1 i2 : Int32} {vn vd vr vq : Nat} (G : mxG h) (S : mxS h vn vd vr vq) (ok : okG h vn vr i1) (k : ∀ h1, p176 vn vd vr i1 i2 h h1 → Q (.inl none) h1) : mx_wp (d + 5) 176 0 (mx_fr 176 [.ref 100, .int i1, .int i2]) [] h Q := by
  refine all_mv (F := mxU (inHr vd vr) h) (R := fun q h1 => CpN (vw h1 vd) (hrX q.1 1 q.2.2.1 q.2.2.2.1 q.2.2.2.2.2 (rs q.2.1 8 i2)) q.2.2.1 q.2.2.2.1 q.2.2.2.2.1) ok (fun q pq => ?_) (fun h1 f r => k h1 ⟨f, fun W r' np ns nl n a1 a2 a3 a4 => by
    have z := r (W, r', np, ns, nl, n) ⟨a1, a2, a3, a4⟩
    dsimp only at z
    exact z⟩)
  obtain ⟨W, r, np, ns, nl, n⟩ := q
  obtain ⟨C, L, hn, en⟩ := pq
  have C : CpN (vw h vn) r np ns nl := C
  have L : LC (lw h vr) W := L
  have hn : n ≤ 200 := hn
  have en : i1 = nI n := en
  dsimp only
  subst en
  have hVd := mxS_vd S
  have hVr := mxS_vr S
  have dj := vl_ne hVd hVr
  refine tr_176_0 G S (fun h2 u2 h6 e6 => ?_)
  have U2 : mxU (inHr vd vr) h h2 := cp_in u2
  have U6 : mxU (inHr vd vr) h2 h6 := by rw [e6]; exact mxU_wi (by unfold inHr; omega)
  have C6 : CpN (vw h6 vd) (rs r 8 i2) np ns nl := by
    have := vw_wi (h := h2) (a := vd) (k := 0) (j := 7) (w := i2)
    rw [show vd + 0 = vd from rfl, ← e6] at this
    rw [this]
    exact CpN_sd (cp_CpN u2 C) _
  have U := mxU_tr U2 U6
  exact H176 (W := W) (r := rs r 8 i2) (np := np) (ns := ns) (nl := nl) (vn := vn) (vq := vq) (h0 := h) hn hVd hVr L (fun h1 U C => ⟨rfl, U, C⟩) n 0 h6 rfl (mxU_G U G) (mxU_S U S) U C6
/-! the row, put aside and back -/
theorem W225_p {h : mxH} : mxU (fun b => b = 384) h (W_225 h) ∧ ∀ j, mx_i (W_225 h) 384 j = if j < 369 then mx_i h 382 j else mx_i h 384 j := by
  unfold W_225
  exact fo_cpy (A := 384) (B := 382) (N := 369) (by decide) (fun z s hz => by unfold F_225_2; rw [nI_clamp (by omega)]) 369 (Nat.le_refl _) h
theorem W226_p {h : mxH} : mxU (fun b => b = 382) h (W_226 h) ∧ ∀ j, mx_i (W_226 h) 382 j = if j < 369 then mx_i h 384 j else mx_i h 382 j := by
  unfold W_226
  exact fo_cpy (A := 382) (B := 384) (N := 369) (by decide) (fun z s hz => by unfold F_226_2; rw [nI_clamp (by omega)]) 369 (Nat.le_refl _) h
/-- the reference looks ahead, and is as it was -/
theorem back_m {h h1 h2 h3 : mxH} {r : Nat → Int32} (e1 : h1 = W_225 h) (u2 : ∀ b, b ≠ 381 → b ≠ 387 → b ≠ 382 → mx_i h2 b = mx_i h1 b) (e2 : mx_i h2 382 = r) (ho : ∀ k, 369 ≤ k → r k = mx_i h 382 k) (e3 : h3 = W_226 h2) : mx_i h3 382 = mx_i h 382 := by
  funext j
  rw [e3, W226_p.2]
  by_cases c : j < 369
  · rw [if_pos c, u2 384 (by decide) (by decide) (by decide), e1, W225_p.2, if_pos c]
  · rw [if_neg c, e2]
    exact ho j (by omega)
