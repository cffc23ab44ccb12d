/-! SPECS by hand, 24: one walks, gravel grows: the reference -/
def frW (h h1 : mxH) : Prop := mxK h h1 ∧ (∀ b, b ≠ 381 → b ≠ 387 → b ≠ 382 → mx_i h1 b = mx_i h b) ∧ ∀ k, (k ≤ 8 ∨ k = 12 ∨ k = 14 ∨ 20 ≤ k) → mx_i h1 381 k = mx_i h 381 k
theorem frW_rfl {h : mxH} : frW h h := ⟨mxK_rfl, fun _ _ _ _ => rfl, fun _ _ => rfl⟩
theorem frW_tr {h h1 h2 : mxH} (u : frW h h1) (w : frW h1 h2) : frW h h2 := ⟨mxK_tr u.1 w.1, fun b a c e => (w.2.1 b a c e).trans (u.2.1 b a c e), fun k hk => (w.2.2 k hk).trans (u.2.2 k hk)⟩
theorem frW_Q {h h1 : mxH} (u : frQ h h1) : frW h h1 := ⟨u.1, fun b a c _ => u.2.1 b a c, u.2.2⟩
theorem frQ_m {h h1 : mxH} (u : frQ h h1) : mx_i h1 382 = mx_i h 382 := u.2.1 382 (by decide) (by decide)
theorem frW_m {h : mxH} {k : Nat} {w : Int32} : frW h (mx_wi h 382 k w) := ⟨mxK_wi, fun b _ _ c => wi_ne c, fun k _ => by rw [wi_ne (by decide)]⟩
theorem m_wi {h : mxH} {k : Nat} {w : Int32} : mx_i (mx_wi h 382 k w) 382 = rs (mx_i h 382) k w := by
  funext j
  rw [wi_row]; rfl
theorem W197_e {h : mxH} {x : Nat} (hx : x < 100) (k : Nat) (hk : k < 100) {w : Int32} : W_197 h (nI x) (nI k) w = mx_wi h 382 (33 + 6 * x + k) w := by
  unfold W_197
  rw [ixU, nI_clamp (by omega)]
theorem W199_e {h : mxH} {x : Nat} (hx : x < 100) (k : Nat) (hk : k < 100) {w : Int32} : W_199 h (nI x) (nI k) w = mx_wi h 382 (69 + 6 * x + k) w := by
  unfold W_199
  rw [ixS, nI_clamp (by omega)]
theorem v192_mn {r : Nat → Int32} {m x : Int32} : V_192 r m x = mn m x := rfl
def p240 (i1 : Int32) (h h1 : mxH) : Prop := frW h h1 ∧ ∀ W np ns nl x, Rok (mx_i h 382) np ns nl → LR (mx_i h 382) W → x < np → i1 = nI x → mx_i h1 382 = wlkR W (mx_i h 382) x
theorem sp_240 {d : Nat} {h : mxH} {Q : mxO → mxH → Prop} {i1 : Int32} (G : mxG h) (ok : okQ h i1) (k : ∀ h1, p240 i1 h h1 → Q (.inl none) h1) : mx_wp (d + 34) 240 0 (mx_fr 240 [.ref 381, .int i1]) [] h Q := by
  refine all_mv (F := frW h) (R := fun q h1 => mx_i h1 382 = wlkR q.1 (mx_i h 382) q.2.2.2.2) ok (fun q pq => ?_) (fun h1 f r => k h1 ⟨f, fun W np ns nl x a1 a2 a3 a4 => by
    have z := r (W, np, ns, nl, x) ⟨a1, a2, a3, a4⟩
    dsimp only at z
    exact z⟩)
  obtain ⟨W, np, ns, nl, x⟩ := q
  have pq0 := pq
  obtain ⟨R, L, hx, ex⟩ := pq
  have R : Rok (mx_i h 382) np ns nl := R
  have L : LR (mx_i h 382) W := L
  have hx : x < np := hx
  have ex : i1 = nI x := ex
  dsimp only
  subst ex
  have R0 := R
  obtain ⟨v, C⟩ := R
  obtain ⟨hh, aa, rfl⟩ := vw_ex v
  have h6 := C_np6 C
  have x100 : x < 100 := by omega
  refine tr_240_0 G ⟨vpU (by omega), vpU (by omega), fun v3 e3 => ?_⟩
  rw [u2 x100, u3 x100] at e3 ⊢
  have e3 : v3 = stp1 (mx_i h 382 (33 + 6 * x + 2)) (mx_i h 382 (33 + 6 * x + 3)) := e3
  refine ⟨fun c => ⟨⟨_, pq0⟩, fun h16 u16 => ⟨vpU (by omega), fun h20 e20 => ?_⟩⟩, fun c => ⟨C_rs C, vpU (by omega), ⟨fun _ => trivial, fun _ => ⟨vpU (by omega), fun _ => trivial, fun _ => ⟨vpU (by omega), trivial⟩⟩⟩, ?_⟩⟩
  · have m16 := frQ_m u16.1
    have e18 := u16.2 W np ns nl x R0 L hx rfl 1 (by decide)
    rw [m16, show mx_i h16 381 18 = _ from e18, u0 x100, v192_mn, show (0 : Int32) = nI 0 from rfl, W197_e x100 0 (by decide)] at e20
    refine ⟨rfl, frW_tr (frW_Q u16.1) (by rw [e20]; exact frW_m), ?_⟩
    rw [e20, m_wi, m16]
    unfold wlkR
    rw [if_pos c]
  · refine ⟨fun hb => ?_, fun hb => ⟨rfl, frW_rfl, ?_⟩⟩
    · rw [e3]
      refine ⟨fun q => ⟨rfl, frW_rfl, ?_⟩, fun q h10 e10 => ?_⟩
      · unfold wlkR
        rw [if_neg c, if_neg (fun y => y.2 q)]
      · rw [show (2 : Int32) = nI 2 from rfl, W197_e x100 2 (by decide)] at e10
        refine ⟨rfl, by rw [e10]; exact frW_m, ?_⟩
        rw [e10, m_wi]
        unfold wlkR
        rw [if_neg c, if_pos ⟨hb, q⟩]
    · unfold wlkR
      rw [if_neg c, if_neg (fun y => hb y.1)]
/-! gravel -/
def okR (h : mxH) : Prop := ∃ (q : Nat × Nat × Nat), Rok (mx_i h 382) q.1 q.2.1 q.2.2
def p242 (h h1 : mxH) : Prop := frW h h1 ∧ ∀ np ns nl, Rok (mx_i h 382) np ns nl → mx_i h1 382 = dwR np ns (mx_i h 382)
theorem H242b {d np ns nl : Nat} {h0 : mxH} {Q : mxO → mxH → Prop} {r0 : Nat → Int32} (R0 : Rok r0 np ns nl) (fin : ∀ h1, frW h0 h1 → mx_i h1 382 = fo hlf np r0 → Q (.inl none) h1) : ∀ (m i : Nat) (h : mxH), m + i = np → mxG h → frW h0 h → mx_i h 382 = fo hlf i r0 → H_242_30 (d + 1) h (nI i) Q := by
  intro m
  induction m with
  | zero =>
    intro i h hm G U e
    have hi : i = np := by omega
    subst hi
    have R : Rok (mx_i h 382) i ns nl := by rw [e]; exact fo_ok (P := fun s => Rok s i ns nl) (N := i) (fun z s hz R => hlf_ok hz R) i _ (Nat.le_refl _) R0
    obtain ⟨v, C⟩ := R
    refine tr_242_30 G ⟨fun c => ?_, fun _ => fin h U e⟩
    rw [C_np C] at c
    exact absurd c Int32.lt_irrefl
  | succ m ih =>
    intro i h hm G U e
    have hx : i < np := by omega
    have R : Rok (mx_i h 382) np ns nl := by rw [e]; exact fo_ok (P := fun s => Rok s np ns nl) (N := np) (fun z s hz R => hlf_ok hz R) i _ (by omega) R0
    obtain ⟨v, C⟩ := R
    have h6 := C_np6 C
    refine tr_242_30 G ⟨fun _ => ⟨vpU (by omega), fun h3 e3 => ?_⟩, fun c => absurd (by rw [C_np C]; exact nI_lt hx (by omega)) c⟩
    rw [u4 (by omega), show (4 : Int32) = nI 4 from rfl, W197_e (by omega) 4 (by decide)] at e3
    have U3 : frW h h3 := by rw [e3]; exact frW_m
    rw [nI_1]
    refine ih (i + 1) h3 (by omega) (mxK_G U3.1 G) (frW_tr U U3) ?_
    rw [e3, m_wi, e]; rfl
theorem H242a {d np ns nl : Nat} {h0 : mxH} {Q : mxO → mxH → Prop} {r0 : Nat → Int32} (R0 : Rok r0 np ns nl) (fin : ∀ h1, mxG h1 → frW h0 h1 → mx_i h1 382 = fo grw ns r0 → H_242_30 (d + 1) h1 0 Q) : ∀ (m i : Nat) (h : mxH), m + i = ns → mxG h → frW h0 h → mx_i h 382 = fo grw i r0 → H_242_2 (d + 1) h (nI i) Q := by
  intro m
  induction m with
  | zero =>
    intro i h hm G U e
    have hi : i = ns := by omega
    subst hi
    have R : Rok (mx_i h 382) np i nl := by rw [e]; exact fo_ok (P := fun s => Rok s np i nl) (N := i) (fun z s hz R => grw_ok hz R) i _ (Nat.le_refl _) R0
    obtain ⟨v, C⟩ := R
    refine tr_242_2 G ⟨fun c => ?_, fun _ => fin h G U e⟩
    rw [C_ns C] at c
    exact absurd c Int32.lt_irrefl
  | succ m ih =>
    intro i h hm G U e
    have hx : i < ns := by omega
    have R : Rok (mx_i h 382) np ns nl := by rw [e]; exact fo_ok (P := fun s => Rok s np ns nl) (N := ns) (fun z s hz R => grw_ok hz R) i _ (by omega) R0
    obtain ⟨v, C⟩ := R
    have h10 := C_ns10 C
    refine tr_242_2 G ⟨fun _ => ⟨vpS (by omega), ?_⟩, fun c => absurd (by rw [C_ns C]; exact nI_lt hx (by omega)) c⟩
    rw [w3 (by omega), nI_1]
    refine ⟨fun c => ⟨vpS (by omega), fun h5 e5 => ?_⟩, fun c => ?_⟩
    · rw [w2 (by omega), v192_mn, show (2 : Int32) = nI 2 from rfl, W199_e (by omega) 2 (by decide)] at e5
      have U5 : frW h h5 := by rw [e5]; exact frW_m
      refine ih (i + 1) h5 (by omega) (mxK_G U5.1 G) (frW_tr U U5) ?_
      show mx_i h5 382 = grw i (fo grw i r0)
      rw [← e, e5, m_wi]
      unfold grw
      rw [if_pos c]
    · refine ih (i + 1) h (by omega) G U ?_
      show mx_i h 382 = grw i (fo grw i r0)
      rw [← e]
      unfold grw
      rw [if_neg c]
theorem sp_242 {d : Nat} {h : mxH} {Q : mxO → mxH → Prop} (G : mxG h) (ok : okR h) (k : ∀ h1, p242 h h1 → Q (.inl none) h1) : mx_wp (d + 1) 242 0 (mx_fr 242 [.ref 381]) [] h Q := by
  refine all_mv (P := fun (q : Nat × Nat × Nat) => Rok (mx_i h 382) q.1 q.2.1 q.2.2) (F := frW h) (R := fun (q : Nat × Nat × Nat) h1 => mx_i h1 382 = dwR q.1 q.2.1 (mx_i h 382)) ok (fun q pq => ?_) (fun h1 f r => k h1 ⟨f, fun np ns nl a1 => by
    have z := r (np, ns, nl) a1
    dsimp only at z
    exact z⟩)
  obtain ⟨np, ns, nl⟩ := q
  have R : Rok (mx_i h 382) np ns nl := pq
  dsimp only
  refine tr_242_0 G ?_
  refine H242a (np := np) (ns := ns) (nl := nl) (h0 := h) (r0 := mx_i h 382) R (fun h1 G1 U1 e1 => ?_) ns 0 h rfl G frW_rfl rfl
  have R1 : Rok (mx_i h1 382) np ns nl := by rw [e1]; exact fo_ok (P := fun s => Rok s np ns nl) (N := ns) (fun z s hz R => grw_ok hz R) ns _ (Nat.le_refl _) R
  refine H242b (np := np) (ns := ns) (nl := nl) (h0 := h1) (r0 := mx_i h1 382) R1 (fun h2 U2 e2 => ⟨rfl, frW_tr U1 U2, ?_⟩) np 0 h1 rfl G1 frW_rfl rfl
  rw [e2, e1]; rfl
