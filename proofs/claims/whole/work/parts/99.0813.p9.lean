/-! SHARE: the spec of dealOut -/
def pst9 (r : Nat → Int32) (np ns : Nat) (pl : Int32) (h1 : mxH) : Prop := mx_i h1 109 6 = nI (cN (wnA r pl np) ns) ∧ (cN (hrA r pl) np = 0 → mx_i h1 109 7 = -1) ∧ (0 < cN (hrA r pl) np → mx_i h1 109 7 = nI (sO (cN (hrA r pl) np) (fun k => wR r ns (enB (wnA r pl np) ns k)) (cN (wnA r pl np) ns) 0 (fun _ => 0)) ∧ sO (cN (hrA r pl) np) (fun k => wR r ns (enB (wnA r pl np) ns k)) (cN (wnA r pl np) ns) 0 (fun _ => 0) ≤ 1000 ∧ ∀ k, k < cN (wnA r pl np) ns → mx_i h1 114 k = nI (enB (hrA r pl) np (gp (cN (hrA r pl) np) (fun k => wR r ns (enB (wnA r pl np) ns k)) (cN (wnA r pl np) ns) 0 (fun _ => 0) (fun _ => 0) k)))
def p9 (a : Nat) (i2 : Int32) (h h1 : mxH) : Prop := mxU (fun b => 109 ≤ b ∧ b ≤ 114) h h1 ∧ ∀ r np ns nl, CpN (vw h a) r np ns nl → pst9 r np ns i2 h1
theorem sp_9 {d : Nat} {h : mxH} {Q : mxO → mxH → Prop} {a : Nat} {i2 : Int32} (G : mxG h) (hVa : (mxT a).1 = 9) (ok : ∃ (q : (Nat → Int32) × Nat × Nat × Nat), CpN (vw h a) q.1 q.2.1 q.2.2.1 q.2.2.2) (k : ∀ h1, p9 a i2 h h1 → Q (.inl none) h1) : mx_wp (d + 19) 9 0 (mx_fr 9 [.ref 109, .ref a, .int i2]) [] h Q := by
  have ga := va_gt hVa
  refine all_mv (F := mxU (fun b => 109 ≤ b ∧ b ≤ 114) h) (R := fun q h1 => pst9 q.1 q.2.1 q.2.2.1 i2 h1) ok (fun q C => ?_) (fun h1 f r => k h1 ⟨f, fun r' np ns nl a1 => by
    have z := r (r', np, ns, nl) a1
    dsimp only at z
    exact z⟩)
  obtain ⟨r, np, ns, nl⟩ := q
  have C : CpN (vw h a) r np ns nl := C
  dsimp only
  have n10 := C_ns10 C
  have n6 := C_np6 C
  refine tr_9_0 G hVa (fun h1 e1 h4 e4 => ?_)
  have U4 : mxU (fun b => 109 ≤ b ∧ b ≤ 114) h h4 := by rw [e4, e1]; exact mxU_tr (mxU_wi (by omega)) (mxU_wi (by omega))
  have cg : ∀ {g : mxH}, mxU (fun b => 109 ≤ b ∧ b ≤ 114) h g → CpN (vw g a) r np ns nl := fun {g} U => CpN_congr (fun k j _ => by
    show mx_i g (a + k) j = mx_i h (a + k) j
    rw [mxU_i U (by omega)]) (fun _ _ _ _ => rfl) C
  have w0 : orS ns (wnA r i2 0) = 0 := by
    apply b_ext
    intro i hi
    rw [bt_orS (by omega) _ hi, b_0]
    unfold wnA
    simp
  have st := H9a (d := d) (Q := fun o h1 => o = .inl none ∧ mxU (fun b => 109 ≤ b ∧ b ≤ 114) h h1 ∧ pst9 r np ns i2 h1) (h0 := h4) (pl := i2) hVa (cg U4) (mxU_G U4 G) (by rw [e4, wi_at rfl rfl]) (fun h5 U5 c2 c6 c110 c111 h6 e6 => ?_) np 0 h4 (by omega) mxU_rfl (by rw [e4, wi_nj (by decide), e1, wi_at rfl rfl]; rfl) (by rw [e4, wi_at rfl rfl]) (fun x hx => by omega) (fun k hk => absurd hk (Nat.not_lt_zero _))
  · rw [w0] at st
    exact st
  have U6 : mxU (fun b => 109 ≤ b ∧ b ≤ 114) h h6 := mxU_tr U4 (mxU_tr (mxU_mono (fun b hb => by omega) U5) (mxU_wi' e6 (by omega)))
  have C6 := cg U6
  refine H9b (S := wnA r i2 np) (h0 := h6) hVa C6 (mxU_G U6 G) (fun h7 U7 d2 d6 d8 d112 => ?_) ns 0 h6 (by omega) mxU_rfl rfl (by rw [e6, wi_nj (by decide)]; exact c6) (by rw [e6, wi_at rfl rfl]; rfl) (fun z hz => by omega)
  have U7' : mxU (fun b => 109 ≤ b ∧ b ≤ 114) h h7 := mxU_tr U6 (mxU_mono (fun b hb => by omega) U7)
  have C7 := cg U7'
  refine tr_9_54 (mxU_G U7' G) hVa ⟨fun q => ?_, fun _ h2 e2 => ?_⟩
  · rw [C_s C7] at q
    exact absurd q Int32.lt_irrefl
  have U2 : mxU (fun b => 109 ≤ b ∧ b ≤ 114) h h2 := mxU_tr U7' (mxU_wi' e2 (by omega))
  have C2 := cg U2
  have cl := cN_le (p := hrA r i2) np
  have ml := cN_le (p := wnA r i2 np) ns
  have q2 : mx_i h2 109 2 = nI (cN (hrA r i2) np) := by rw [e2, wi_nj (by decide), d2, e6, wi_nj (by decide)]; exact c2
  have q6 : mx_i h2 109 6 = nI (cN (wnA r i2 np) ns) := by rw [e2, wi_nj (by decide)]; exact d6
  have q8 : mx_i h2 109 8 = nI (gwN (wR r ns) (wnA r i2 np) ns) := by rw [e2, wi_nj (by decide)]; exact d8
  have wb : ∀ z, wR r ns z ≤ 40 := by
    intro z
    by_cases c : z < ns
    · exact (wR_e C c).2
    · unfold wR; rw [if_neg c]; omega
  rw [q2]
  refine ⟨fun c0 => ?_, fun c0 => ?_⟩
  · have hc : 0 < cN (hrA r i2) np := by
      rw [show (0 : Int32) = nI 0 from rfl, nI_lt_iff (by omega) (by omega)] at c0; exact c0
    refine ⟨C_cs C2, fun z => ?_, fun h8 e8 => ?_⟩
    · have := (nI_eq (b := 0) (by omega) (by decide)).mp z
      omega
    obtain ⟨c, hce⟩ : ∃ c, c = cN (hrA r i2) np := ⟨_, rfl⟩
    obtain ⟨m, hme⟩ : ∃ m, m = cN (wnA r i2 np) ns := ⟨_, rfl⟩
    rw [← hce] at e8 q2 hc cl c111 c2
    rw [← hme] at q6 ml
    have en : ∀ k, k < m → enB (wnA r i2 np) ns k < ns ∧ wnA r i2 np (enB (wnA r i2 np) ns k) = true ∧ cN (wnA r i2 np) (enB (wnA r i2 np) ns k) = k := fun k hk => enB_ok (by rw [← hme]; exact hk)
    have tot : V_76 h2 a (orS ns (wnA r i2 np)) = nI (suN (fun z => if wnA r i2 np z = true then wR r ns z else 0) ns) := by
      rw [cm_76 C2]
      have : ∀ n, n ≤ ns → smS n (fun z => if bt (orS ns (wnA r i2 np)) z = true then r (69 + 6 * z + 2) else 0) = nI (suN (fun z => if wnA r i2 np z = true then wR r ns z else 0) n) := by
        intro n
        induction n with
        | zero => intro _; rfl
        | succ n ih =>
          intro h2
          show smS n _ + (if bt (orS ns (wnA r i2 np)) n = true then r (69 + 6 * n + 2) else 0) = nI (suN _ n + (if wnA r i2 np n = true then wR r ns n else 0))
          rw [ih (by omega), bt_orS (by omega) _ (by omega), decide_eq_true (show n < ns by omega), Bool.true_and, ← nI_add]
          congr 1
          by_cases c : wnA r i2 np n = true
          · rw [if_pos c, if_pos c]; exact (wR_e C2 (by omega)).1
          · rw [if_neg c, if_neg c]; rfl
      exact this ns (Nat.le_refl _)
    have tb : suN (fun z => if wnA r i2 np z = true then wR r ns z else 0) ns ≤ ns * 40 := suN_bd (fun z => by
      have := wb z
      split <;> omega) ns
    have te := suN_en (w := wR r ns) (S := wnA r i2 np) ns
    rw [← hme] at te
    have ss := sO_sum (w := fun k => wR r ns (enB (wnA r i2 np) ns k)) hc (n := m)
    have ce := ceil_le (t := suN (fun z => if wnA r i2 np z = true then wR r ns z else 0) ns) hc (by rw [te]; exact ss)
    have gw : gwN (wR r ns) (wnA r i2 np) ns ≤ sO c (fun k => wR r ns (enB (wnA r i2 np) ns k)) m 0 (fun _ => 0) := gwN_le (fun z hz => by
      by_cases q : z < ns
      · have w := enB_at q hz
        rw [← hme] at w
        have := sO_one (w := fun k => wR r ns (enB (wnA r i2 np) ns k)) hc (n := m) w.1
        rw [w.2] at this
        exact this
      · unfold wR; rw [if_neg q]; omega) ns
    have gb : gwN (wR r ns) (wnA r i2 np) ns ≤ 40 := gwN_le (fun z _ => wb z) ns
    have c1 : (1 : Int32) = nI 1 := rfl
    rw [q8, tot, nI_add, c1, pk_sub (by omega), nI_div (by omega) (by omega) (by omega)] at e8
    generalize hev : (suN (fun z => if wnA r i2 np z = true then wR r ns z else 0) ns + c - 1) / c = ev at ce e8
    have evb : ev ≤ 1000 := by
      rw [← hev]
      exact Nat.le_trans (Nat.div_le_self _ _) (by omega)
    have mx : (if nI (gwN (wR r ns) (wnA r i2 np) ns) < nI ev then nI ev else nI (gwN (wR r ns) (wnA r i2 np) ns)) = nI (max (gwN (wR r ns) (wnA r i2 np) ns) ev) := by
      by_cases z : gwN (wR r ns) (wnA r i2 np) ns < ev
      · rw [if_pos (nI_lt z (by omega)), Nat.max_eq_right (by omega)]
      · rw [if_neg (by rw [nI_lt_iff (by omega) (by omega)]; exact z), Nat.max_eq_left (by omega)]
    rw [mx] at e8
    have a8 : ∀ b, b ≠ 109 → mx_i h8 b = mx_i h7 b := fun b hb => by rw [e8, wi_ne hb, e2, wi_ne hb]
    have b7 : ∀ b, b ≠ 109 → b ≠ 112 → mx_i h7 b = mx_i h5 b := fun b b1 b2 => by rw [mxU_i U7 (by omega), e6, wi_ne b1]
    have oq : VDq (m + 1 - 0) 0 0 h8 (c, m, fun k => wR r ns (enB (wnA r i2 np) ns k), fun _ => 0, 0, 0, fun _ => 0, (none, fun _ => 0), max (gwN (wR r ns) (wnA r i2 np) ns) ev) := by
      refine ⟨⟨⟨hc, (by omega : c ≤ 6), (by omega : m ≤ 10), Nat.zero_le _⟩, by rw [e8, wi_nj (by decide)]; exact q2, by rw [e8, wi_nj (by decide)]; exact q6, ⟨by rw [e8, wi_at rfl rfl], (by omega : max (gwN (wR r ns) (wnA r i2 np) ns) ev ≤ 1000)⟩, fun k hk => ?_, fun k => wb _, fun i hi => ?_, fun i => Nat.zero_le _, fun k hk => absurd hk (Nat.not_lt_zero _), ?_⟩, rfl, rfl, Nat.zero_le _, (by omega : m + 1 = 0 + (m + 1 - 0))⟩
      · have w := en k hk
        have := d112 _ w.1 w.2.1
        rw [w.2.2] at this
        rw [a8 112 (by decide)]; exact this
      · rw [a8 111 (by decide), b7 111 (by decide) (by decide)]; exact c111 i hi
      · show mx_i h8 109 7 = -1
        rw [e8, wi_nj (by decide), e2, wi_at rfl rfl]
    refine ⟨⟨_, oq⟩, fun h13 u13 => ?_⟩
    have V := u13.2.2 _ _ _ _ _ _ _ _ _ oq
    rw [dlN_eq hc (by exact (Nat.le_antisymm (mxF_lub (fun _ _ => Nat.le_refl _)) (Nat.zero_le _)).symm) (by rw [Nat.sub_zero]; omega)] at V
    obtain ⟨_, x2, x6, _, _, _, _, _, _, xs⟩ := V
    rw [Nat.sub_zero] at xs
    obtain ⟨y1, y2, y3⟩ := xs
    refine ⟨rfl, mxU_tr U2 (mxU_tr (mxU_wi' e8 (by omega)) (mxU_mono (fun b hb => by omega) u13.1)), by rw [← hme]; exact x6, fun z => by omega, fun _ => ?_⟩
    rw [← hce, ← hme]
    refine ⟨y2, y1, fun k hk => ?_⟩
    rw [y3 k hk]
    have gl : gp c (fun k => wR r ns (enB (wnA r i2 np) ns k)) m 0 (fun _ => 0) (fun _ => 0) k < c := gp_lt hc (fun l => hc) (by omega)
    have w := enB_ok (p := hrA r i2) (N := np) (k := gp c (fun k => wR r ns (enB (wnA r i2 np) ns k)) m 0 (fun _ => 0) (fun _ => 0) k) (by rw [← hce]; exact gl)
    have := c110 _ w.1 w.2.1
    rw [w.2.2] at this
    rw [mxU_i u13.1 (by omega), a8 110 (by decide), b7 110 (by decide) (by decide)]
    exact this
  · refine ⟨rfl, U2, q6, fun _ => by rw [e2, wi_at rfl rfl], fun z => absurd (nI_lt (a := 0) z (by omega)) c0⟩
