/-! SPECS by hand, 23: an hour: the class; what the law says of a person: the reference -/
def inHr (a b c : Nat) : Prop := (a ≤ c ∧ c ≤ a + 15) ∨ c = b + 5 ∨ c = b + 6
def p110 (a b : Nat) (i2 : Int32) (h : mxH) (y : Int32) (h1 : mxH) : Prop := mxU (inHr a b) h h1 ∧ ∀ W r np ns nl, CpN (vw h a) r np ns nl → LC (lw h b) W → CpN (vw h1 a) (hrS W i2 np ns r).1 np ns nl ∧ y = (hrS W i2 np ns r).2
def okH0 (h : mxH) (a b : Nat) : Prop := ∃ (q : Option (List LL) × (Nat → Int32) × Nat × Nat × Nat), CpN (vw h a) q.2.1 q.2.2.1 q.2.2.2.1 q.2.2.2.2 ∧ LC (lw h b) q.1
theorem Cu_h01 {h : mxH} {a np ns nl x : Nat} {r : Nat → Int32} (C : CpN (vw h a) r np ns nl) (hx : x < np) : r (33 + 6 * x + 5) = 0 ∨ r (33 + 6 * x + 5) = 1 := by
  have h6 := C_np6 C
  rw [Cu_h C hx, tbv _ (by omega)]
  split
  · exact .inr rfl
  · exact .inl rfl
theorem H110b {d a b np ns nl : Nat} {h0 : mxH} {Q : mxO → mxH → Prop} {W : Option (List LL)} {dr : Int32} {s0 : (Nat → Int32) × Int32} (hVa : (mxT a).1 = 9) (hVb : (mxT b).1 = 3) (L0 : LC (lw h0 b) W) (fin : ∀ h1, mxU (inHr a b) h0 h1 → CpN (vw h1 a) (endR np ns (fo (stp W dr) np s0).1) np ns nl → Q (.inl (some (.int (fo (stp W dr) np s0).2))) h1) : ∀ (m i : Nat) (h : mxH), m + i = np → mxG h → mxU (inHr a b) h0 h → CpN (vw h a) (fo (stp W dr) i s0).1 np ns nl → H_110_17 (d + 4) h a b dr (fo (stp W dr) i s0).2 (nI i) Q := by
  have dj := vl_ne hVa hVb
  intro m
  induction m with
  | zero =>
    intro i h hm G U C
    have hi : i = np := by omega
    subst hi
    refine tr_110_17 G hVa hVb ⟨fun c => ?_, fun _ => ⟨⟨(_, _, _, _), C⟩, fun h4 u4 => ?_⟩⟩
    · rw [C_p C] at c
      exact absurd c Int32.lt_irrefl
    · exact fin h4 (mxU_tr U (mxU_mono (fun c hc => by unfold inHr; omega) u4.1)) (u4.2 _ _ _ _ C)
  | succ m ih =>
    intro i h hm G U C
    have h6 := C_np6 C
    have hx : i < np := by omega
    have L : LC (lw h b) W := LC_U U (fun k hk q => by unfold inHr at q; omega) L0
    have sx : fo (stp W dr) (i + 1) s0 = stp W dr i (fo (stp W dr) i s0) := rfl
    have nx := fun h => ih (i + 1) h (by omega)
    rw [sx] at nx
    generalize fo (stp W dr) i s0 = s at C nx ⊢
    refine tr_110_17 G hVa hVb ⟨fun _ => ?_, fun c => absurd (by rw [C_p C]; exact nI_lt hx (by omega)) c⟩
    rw [cm_isHurt C hx, nI_1]
    have h01 := Cu_h01 C hx
    refine ⟨fun c => ⟨⟨(W, s.1, np, ns, nl, i), C, L, hx, rfl⟩, fun x9 h10 u10 => ?_⟩, fun c => ?_⟩
    · have n1 : ¬ s.1 (33 + 6 * i + 5) = 1 := by rw [c]; decide
      have U10 : mxU (inHr a b) h0 h10 := mxU_tr U (mxU_mono (fun c hc => by unfold inHr; omega) u10.1)
      have G10 := mxU_G u10.1 G
      obtain ⟨o1, o2⟩ := u10.2 W s.1 np ns nl i C L hx rfl
      by_cases d0 : dr = 0
      · obtain ⟨o, C10⟩ := o1 d0
        have es : stp W dr i s = (tirR W s.1 i, s.2) := by unfold stp; rw [if_neg n1, if_pos d0]
        have := nx h10 G10 U10 (by rw [es]; exact C10)
        rw [es] at this
        exact ⟨fun _ => this, fun q => absurd o q⟩
      · obtain ⟨o, C10⟩ := o2 d0
        by_cases ht : isHt W s.1 i
        · rw [if_pos ht] at o
          have es : stp W dr i s = (rs (drR W s.1 i) (33 + 6 * i + 5) 1, s.2 + 1) := by unfold stp; rw [if_neg n1, if_neg d0, if_pos ht]
          refine ⟨fun q => absurd (o.symm.trans q) (by decide), fun _ h14 e14 => ?_⟩
          unfold W_50 at e14
          have C14 : CpN (vw h14 a) (rs (drR W s.1 i) (33 + 6 * i + 5) 1) np ns nl := by
            rw [e14, vw_wi]
            exact CpN_hu C10 hx
          have U14 : mxU (inHr a b) h10 h14 := by rw [e14]; exact mxU_wi (by unfold inHr; omega)
          have := nx h14 (mxU_G U14 G10) (mxU_tr U10 U14) (by rw [es]; exact C14)
          rw [es] at this
          exact this
        · rw [if_neg ht] at o
          have es : stp W dr i s = (drR W s.1 i, s.2) := by unfold stp; rw [if_neg n1, if_neg d0, if_neg ht]
          have := nx h10 G10 U10 (by rw [es]; exact C10)
          rw [es] at this
          exact ⟨fun _ => this, fun q => absurd o q⟩
    · have y1 : s.1 (33 + 6 * i + 5) = 1 := by
        rcases h01 with q | q
        · exact absurd q c
        · exact q
      have es : stp W dr i s = s := by unfold stp; rw [if_pos y1]
      have := nx h G U (by rw [es]; exact C)
      rw [es] at this
      exact this
theorem H110a {d a b np ns nl : Nat} {h0 : mxH} {Q : mxO → mxH → Prop} {W : Option (List LL)} {dr : Int32} {r0 : Nat → Int32} (hVa : (mxT a).1 = 9) (hVb : (mxT b).1 = 3) (L0 : LC (lw h0 b) W) (fin : ∀ h1, mxG h1 → mxU (inHr a b) h0 h1 → CpN (vw h1 a) (fo (fun x r => wlkR W r x) np r0) np ns nl → H_110_17 (d + 4) h1 a b dr 0 0 Q) : ∀ (m i : Nat) (h : mxH), m + i = np → mxG h → mxU (inHr a b) h0 h → CpN (vw h a) (fo (fun x r => wlkR W r x) i r0) np ns nl → H_110_2 (d + 4) h a b dr (nI i) Q := by
  have dj := vl_ne hVa hVb
  intro m
  induction m with
  | zero =>
    intro i h hm G U C
    have hi : i = np := by omega
    subst hi
    refine tr_110_2 G hVa hVb ⟨fun c => ?_, fun _ => fin h G U C⟩
    rw [C_p C] at c
    exact absurd c Int32.lt_irrefl
  | succ m ih =>
    intro i h hm G U C
    have h6 := C_np6 C
    have hx : i < np := by omega
    have L : LC (lw h b) W := LC_U U (fun k hk q => by unfold inHr at q; omega) L0
    refine tr_110_2 G hVa hVb ⟨fun _ => ⟨⟨(W, _, np, ns, nl, i), C, L, hx, rfl⟩, fun h4 u4 => ?_⟩, fun c => absurd (by rw [C_p C]; exact nI_lt hx (by omega)) c⟩
    rw [nI_1]
    exact ih (i + 1) h4 (by omega) (mxU_G u4.1 G) (mxU_tr U (mxU_mono (fun c hc => by unfold inHr; omega) u4.1)) (u4.2 W _ np ns nl i C L hx rfl)
theorem sp_110 {d : Nat} {h : mxH} {Q : mxO → mxH → Prop} {a b : Nat} {i2 : Int32} (G : mxG h) (hVa : (mxT a).1 = 9) (hVb : (mxT b).1 = 3) (ok : okH0 h a b) (k : ∀ y h1, p110 a b i2 h y h1 → Q (.inl (some (.int y))) h1) : mx_wp (d + 4) 110 0 (mx_fr 110 [.ref a, .ref b, .int i2]) [] h Q := by
  refine all_mut (F := mxU (inHr a b) h) (R := fun q y h1 => CpN (vw h1 a) (hrS q.1 i2 q.2.2.1 q.2.2.2.1 q.2.1).1 q.2.2.1 q.2.2.2.1 q.2.2.2.2 ∧ y = (hrS q.1 i2 q.2.2.1 q.2.2.2.1 q.2.1).2) ok (fun q pq => ?_) (fun y h1 f r => k y h1 ⟨f, fun W r' np ns nl a1 a2 => by
    have z := r (W, r', np, ns, nl) ⟨a1, a2⟩
    dsimp only at z
    exact z⟩)
  obtain ⟨W, r, np, ns, nl⟩ := q
  obtain ⟨C, L⟩ := pq
  have C : CpN (vw h a) r np ns nl := C
  have L : LC (lw h b) W := L
  dsimp only
  have dj := vl_ne hVa hVb
  refine tr_110_0 G hVa hVb ?_
  refine H110a (W := W) (r0 := r) (np := np) (ns := ns) (nl := nl) (h0 := h) hVa hVb L (fun h1 G1 U1 C1 => ?_) np 0 h rfl G mxU_rfl C
  refine H110b (W := W) (np := np) (ns := ns) (nl := nl) (h0 := h1) (s0 := (fo (fun x r => wlkR W r x) np r, 0)) hVa hVb (LC_U U1 (fun k hk q => by unfold inHr at q; omega) L) (fun h2 U2 C2 => ⟨_, rfl, mxU_tr U1 U2, C2, rfl⟩) np 0 h1 rfl G1 mxU_rfl C1
/-! the reference -/
def frQ (h h1 : mxH) : Prop := mxK h h1 ∧ (∀ b, b ≠ 381 → b ≠ 387 → mx_i h1 b = mx_i h b) ∧ ∀ k, (k ≤ 8 ∨ k = 12 ∨ k = 14 ∨ 20 ≤ k) → mx_i h1 381 k = mx_i h 381 k
theorem frQ_rfl {h : mxH} : frQ h h := ⟨mxK_rfl, fun _ _ _ => rfl, fun _ _ => rfl⟩
theorem frQ_tr {h h1 h2 : mxH} (u : frQ h h1) (w : frQ h1 h2) : frQ h h2 := ⟨mxK_tr u.1 w.1, fun b a c => (w.2.1 b a c).trans (u.2.1 b a c), fun k hk => (w.2.2 k hk).trans (u.2.2 k hk)⟩
theorem v193_0 {r : Nat → Int32} {y : Int32} : V_193 r 0 y = if 0 < y then y else 0 := by
  unfold V_193
  by_cases c : y < 0
  · rw [if_pos c, if_neg (by grind)]
  · rw [if_neg c]
    by_cases q : 0 < y
    · rw [if_pos q]
    · rw [if_neg q]; grind
def PQ (h : mxH) (i1 : Int32) (q : Option (List LL) × Nat × Nat × Nat × Nat) : Prop := Rok (mx_i h 382) q.2.1 q.2.2.1 q.2.2.2.1 ∧ LR (mx_i h 382) q.1 ∧ q.2.2.2.2 < q.2.1 ∧ i1 = nI q.2.2.2.2
def okQ (h : mxH) (i1 : Int32) : Prop := ∃ q, PQ h i1 q
def p237 (i1 : Int32) (h h1 : mxH) : Prop := frQ h h1 ∧ ∀ W np ns nl x, Rok (mx_i h 382) np ns nl → LR (mx_i h 382) W → x < np → i1 = nI x → ∀ j, j < 3 → mx_i h1 381 (17 + j) = ask W (mx_i h 382) x j
theorem sp_237 {d : Nat} {h : mxH} {Q : mxO → mxH → Prop} {i1 : Int32} (G : mxG h) (ok : okQ h i1) (k : ∀ h1, p237 i1 h h1 → Q (.inl none) h1) : mx_wp (d + 33) 237 0 (mx_fr 237 [.ref 381, .int i1]) [] h Q := by
  refine all_mv (F := frQ h) (R := fun q h1 => ∀ j, j < 3 → mx_i h1 381 (17 + j) = ask q.1 (mx_i h 382) q.2.2.2.2 j) ok (fun q pq => ?_) (fun h1 f r => k h1 ⟨f, fun W np ns nl x a1 a2 a3 a4 => r (W, np, ns, nl, x) ⟨a1, a2, a3, a4⟩⟩)
  obtain ⟨W, np, ns, nl, x⟩ := q
  obtain ⟨R, L, hx, ex⟩ := pq
  have R : Rok (mx_i h 382) np ns nl := R
  have L : LR (mx_i h 382) W := L
  have hx : x < np := hx
  have ex : i1 = nI x := ex
  show mx_wp (d + 33) 237 0 (mx_fr 237 [.ref 381, .int i1]) [] h (fun o h1 => o = .inl none ∧ frQ h h1 ∧ ∀ j, j < 3 → mx_i h1 381 (17 + j) = ask W (mx_i h 382) x j)
  subst ex
  obtain ⟨v, C⟩ := R
  obtain ⟨hh, aa, rfl⟩ := vw_ex v
  have h6 := C_np6 C
  have rs4 : cB (mx_i h 382 4) 10 := C_rs C
  have hp := Cu_l C hx
  obtain ⟨pm, hpm, epm⟩ := isR_N (B := 11) (by decide) hp
  have e9 : (9 + mx_i h 382 (33 + 6 * x + 2)).toNatClampNeg = 9 + (mx_i h 382 (33 + 6 * x + 2)).toNatClampNeg := by
    rw [epm, show (9 : Int32) = nI 9 from rfl, nI_add, nI_clamp (by omega), nI_clamp (by omega)]
  refine tr_237_0 G ⟨rs4, fun v2 e2 v3 e3 h4 e4 v7 e7 h8 e8 => ⟨⟨fun _ => trivial, fun _ => ⟨vpU (by omega), trivial⟩⟩, fun v11 e11 h12 e12 => ?_⟩⟩
  have m4 : mx_i h4 382 = mx_i h 382 := by rw [e4]; exact wi_ne (by decide)
  have m8 : mx_i h8 382 = mx_i h 382 := by rw [e8]; exact (wi_ne (by decide)).trans m4
  have m12 : mx_i h12 382 = mx_i h 382 := by rw [e12]; exact (wi_ne (by decide)).trans m8
  rw [m4, v193_0] at e7
  rw [m8, v193_0, u1 (by omega)] at e11
  have F12 : frQ h h12 := by
    refine ⟨?_, fun b a c => ?_, fun k hk => ?_⟩
    · rw [e12, e8, e4]; exact mxK_tr (mxK_tr mxK_wi mxK_wi) mxK_wi
    · rw [e12, wi_ne a, e8, wi_ne a, e4, wi_ne a]
    · rw [e12, wi_nj (by omega), e8, wi_nj (by omega), e4, wi_nj (by omega)]
  have t17 : mx_i h12 381 17 = v3 := by rw [e12, wi_nj (by decide), e8, wi_nj (by decide), e4, wi_at rfl rfl]
  have t18 : mx_i h12 381 18 = v7 := by rw [e12, wi_nj (by decide), e8, wi_at rfl rfl]
  have t19 : mx_i h12 381 19 = v11 := by rw [e12, wi_at rfl rfl]
  cases W with
  | none =>
    have L : mx_i h 382 1 = -1 := L
    rw [if_pos L] at e2
    subst e2
    refine ⟨fun c => absurd c (by decide), fun _ => ⟨rfl, F12, fun j hj => ?_⟩⟩
    rw [if_neg (by decide)] at e3 e7 e11
    have : j = 0 ∨ j = 1 ∨ j = 2 := by omega
    rcases this with rfl | rfl | rfl
    · rw [t17, e3]; rfl
    · rw [t18, e7]; rfl
    · rw [t19, e11]; rfl
  | some Ls =>
    obtain ⟨Lb1, L2, T, n, n1, n2, n3, n4, n5⟩ := L
    have ne : ¬ mx_i h 382 1 = -1 := by rw [L2]; exact nI_ne1 (by have := Lb1.1; omega)
    rw [if_neg ne] at e2
    subst e2
    rw [if_pos rfl] at e3 e7 e11
    refine ⟨fun _ h16 e16 h19 e19 => ⟨vpU (by omega), fun h23 e23 => ⟨vpU (by omega), fun h27 e27 => ?_⟩⟩, fun c => absurd rfl c⟩
    have m16 : mx_i h16 382 = mx_i h 382 := by rw [e16]; exact (wi_ne (by decide)).trans m12
    have m19 : mx_i h19 382 = mx_i h 382 := by rw [e19]; exact (wi_ne (by decide)).trans m16
    have m23 : mx_i h23 382 = mx_i h 382 := by rw [e23]; exact (wi_ne (by decide)).trans m19
    have m27 : mx_i h27 382 = mx_i h 382 := by rw [e27]; exact (wi_ne (by decide)).trans m23
    rw [m19, u1 (by omega)] at e23
    rw [m23, u2 (by omega)] at e27
    rw [m27, u2 (by omega)]
    refine ⟨?_, fun h31 e31 => ⟨vpU (by omega), fun h35 e35 h38 e38 => ⟨vpU (by omega), fun v42 e42 => ?_⟩⟩⟩
    · rw [epm]; exact vpP (by omega)
    have m31 : mx_i h31 382 = mx_i h 382 := by rw [e31]; exact (wi_ne (by decide)).trans m27
    have m35 : mx_i h35 382 = mx_i h 382 := by rw [e35]; exact (wi_ne (by decide)).trans m31
    have m38 : mx_i h38 382 = mx_i h 382 := by rw [e38]; exact (wi_ne (by decide)).trans m35
    rw [e9] at e31
    rw [m31, u4 (by omega)] at e35
    rw [m35] at e38
    simp only [m38, u2 (show x < 100 by omega), u3 (show x < 100 by omega)] at e42
    have v42b : v42 = 0 ∨ v42 = 1 := by
      rw [e42]
      split
      · exact .inr rfl
      · exact .inl rfl
    refine ⟨v42b, fun h44 e44 v47 e47 => ?_⟩
    have v47b : v47 = 0 ∨ v47 = 1 := by
      rw [e47]
      split
      · exact .inr rfl
      · exact .inl rfl
    refine ⟨v47b, fun h49 e49 h52 e52 h55 e55 h58 e58 h61 e61 h64 e64 => ?_⟩
    have m55 : mx_i h55 382 = mx_i h 382 := by
      rw [e55, wi_ne (by decide), e52, wi_ne (by decide), e49, wi_ne (by decide), e44, wi_ne (by decide)]; exact m38
    rw [m55, n3] at e58
    have m64 : mx_i h64 382 = mx_i h 382 := by
      rw [e64, wi_ne (by decide), e61, wi_ne (by decide), e58, wi_ne (by decide)]; exact m55
    -- what lies in h64
    have a13 : mx_i h64 381 13 = 0 := by rw [e64, wi_at rfl rfl]
    have a11 : mx_i h64 381 11 = 0 := by rw [e64, wi_nj (by decide), e61, wi_at rfl rfl]
    have a10 : mx_i h64 381 10 = nI n := by rw [e64, wi_nj (by decide), e61, wi_nj (by decide), e58, wi_at rfl rfl]
    have a9 : mx_i h64 381 9 = 369 := by rw [e64, wi_nj (by decide), e61, wi_nj (by decide), e58, wi_nj (by decide), e55, wi_at rfl rfl]
    have a12 : mx_i h64 381 12 = -1 := by rw [e64, wi_nj (by decide), e61, wi_nj (by decide), e58, wi_nj (by decide), e55, wi_nj (by decide), e52, wi_at rfl rfl]
    have a16 : mx_i h64 381 16 = v47 := by rw [e64, wi_nj (by decide), e61, wi_nj (by decide), e58, wi_nj (by decide), e55, wi_nj (by decide), e52, wi_nj (by decide), e49, wi_at rfl rfl]
    have a15 : mx_i h64 381 15 = v42 := by rw [e64, wi_nj (by decide), e61, wi_nj (by decide), e58, wi_nj (by decide), e55, wi_nj (by decide), e52, wi_nj (by decide), e49, wi_nj (by decide), e44, wi_at rfl rfl]
    have up : ∀ q, q ≠ 9 → q ≠ 10 → q ≠ 11 → q ≠ 12 → q ≠ 13 → q ≠ 15 → q ≠ 16 → mx_i h64 381 q = mx_i h12 381 q := fun q b1 b2 b3 b4 b5 b6 b7 => by
      rw [e64, wi_nj b5, e61, wi_nj b3, e58, wi_nj b2, e55, wi_nj b1, e52, wi_nj b4, e49, wi_nj b7, e44, wi_nj b6, e38, wi_ne (by decide), e35, wi_ne (by decide), e31, wi_ne (by decide), e27, wi_ne (by decide), e23, wi_ne (by decide), e19, wi_ne (by decide), e16, wi_ne (by decide)]
    have f387 : ∀ q, mx_i h64 387 q = mx_i h38 387 q := fun q => by
      rw [e64, wi_ne (by decide), e61, wi_ne (by decide), e58, wi_ne (by decide), e55, wi_ne (by decide), e52, wi_ne (by decide), e49, wi_ne (by decide), e44, wi_ne (by decide)]
    have FF : Fh h64 = Ff (mx_i h 382) x := by
      funext q
      unfold Fh
      by_cases q7 : q < 7
      · rw [if_pos q7, f387, e38, e35, e31, e27, e23, e19, e16]
        have : q = 0 ∨ q = 1 ∨ q = 2 ∨ q = 3 ∨ q = 4 ∨ q = 5 ∨ q = 6 := by omega
        rcases this with rfl | rfl | rfl | rfl | rfl | rfl | rfl
        · rw [wi_nj (by decide), wi_nj (by decide), wi_nj (by decide), wi_nj (by decide), wi_nj (by decide), wi_nj (by decide), wi_at rfl rfl]; rfl
        · rw [wi_nj (by decide), wi_nj (by decide), wi_nj (by decide), wi_nj (by decide), wi_nj (by decide), wi_at rfl rfl]; rfl
        · rw [wi_nj (by decide), wi_nj (by decide), wi_nj (by decide), wi_nj (by decide), wi_at rfl rfl]; rfl
        · rw [wi_nj (by decide), wi_nj (by decide), wi_nj (by decide), wi_at rfl rfl]; rfl
        · rw [wi_nj (by decide), wi_nj (by decide), wi_at rfl rfl]; rfl
        · rw [wi_nj (by decide), wi_at rfl rfl]; rfl
        · rw [wi_at rfl rfl]; rfl
      · rw [if_neg q7, a15, a16, e42, e47]
        by_cases z : q = 7
        · subst z; rfl
        · rw [if_neg z]
          unfold Ff
          rw [if_neg (show ¬ q = 0 by omega), if_neg (show ¬ q = 1 by omega), if_neg (show ¬ q = 2 by omega), if_neg (show ¬ q = 3 by omega), if_neg (show ¬ q = 4 by omega), if_neg (show ¬ q = 5 by omega), if_neg (show ¬ q = 6 by omega), if_neg z]
    have R64 : Rd h64 T n 0 := ⟨n1, Nat.zero_le _, a10, a11, n2, .inr ⟨a9, fun q hq => by rw [m64]; exact n4 q hq⟩⟩
    refine ⟨by decide, ⟨T, n, 0, R64⟩, a11, a12, ⟨by rw [a15]; exact v42b, by rw [a16]; exact v47b⟩, a13, fun x73 h74 u74 h77 e77 => ⟨rfl, ?_, fun j hj => ?_⟩⟩
    · have K64 : mxK h12 h64 := by
        rw [e64, e61, e58, e55, e52, e49, e44, e38, e35, e31, e27, e23, e19, e16]
        exact mxK_tr (mxK_tr (mxK_tr (mxK_tr (mxK_tr (mxK_tr (mxK_tr (mxK_tr (mxK_tr (mxK_tr (mxK_tr (mxK_tr (mxK_tr mxK_wi mxK_wi) mxK_wi) mxK_wi) mxK_wi) mxK_wi) mxK_wi) mxK_wi) mxK_wi) mxK_wi) mxK_wi) mxK_wi) mxK_wi) mxK_wi
      refine frQ_tr F12 ⟨mxK_tr K64 (mxK_tr u74.1.1 (by rw [e77]; exact mxK_wi)), fun b b1 b2 => ?_, fun q hq => ?_⟩
      · rw [e77, wi_ne b1]
        funext z
        rw [u74.1.2 b z (by omega), e64, wi_ne b1, e61, wi_ne b1, e58, wi_ne b1, e55, wi_ne b1, e52, wi_ne b1, e49, wi_ne b1, e44, wi_ne b1, e38, wi_ne b2, e35, wi_ne b2, e31, wi_ne b2, e27, wi_ne b2, e23, wi_ne b2, e19, wi_ne b2, e16, wi_ne b2]
      · by_cases q12 : q = 12
        · subst q12
          rw [e77, wi_at rfl rfl, e49, wi_nj (by decide), e44, wi_nj (by decide), e38, wi_ne (by decide), e35, wi_ne (by decide), e31, wi_ne (by decide), e27, wi_ne (by decide), e23, wi_ne (by decide), e19, wi_ne (by decide), e16, wi_ne (by decide)]
        · rw [e77, wi_nj q12, u74.1.2 381 q (by omega)]
          exact up q (by omega) (by omega) (by omega) q12 (by omega) (by omega) (by omega)
    · have o := u74.2 T n R64
      rw [n5] at o
      obtain ⟨-, -, o3⟩ := o
      have z0 : mx_i h64 381 (17 + j) = 0 := by
        have : j = 0 ∨ j = 1 ∨ j = 2 := by omega
        rcases this with rfl | rfl | rfl
        · rw [up 17 (by decide) (by decide) (by decide) (by decide) (by decide) (by decide) (by decide), t17, e3]
        · rw [up 18 (by decide) (by decide) (by decide) (by decide) (by decide) (by decide) (by decide), t18, e7]
        · rw [up 19 (by decide) (by decide) (by decide) (by decide) (by decide) (by decide) (by decide), t19, e11]
      rw [e77, wi_nj (by omega), o3 j hj, z0, FF]
      rfl
