/-! SHARE: deal -/
theorem V11_e {h : mxH} {L : Nat → Nat} {c i : Nat} (hi : i < c) (hc : c ≤ 6) (e : ∀ i, i < c → mx_i h 111 i = nI (L i)) (b : ∀ i, L i ≤ 400) : (V_11 h (nI i) = 0) ↔ ¬ likN L i = true := by
  have q : (List.range i).any (fun e => decide (mx_i h 111 e = mx_i h 111 i)) = likN L i := by
    unfold likN
    rw [Bool.eq_iff_iff, List.any_eq_true, List.any_eq_true]
    have key : ∀ x, x < i → ((mx_i h 111 x = mx_i h 111 i) ↔ L x = L i) := fun x hx => by
      have b1 := b x
      have b2 := b i
      rw [e x (by omega), e i hi]
      exact nI_eq (by omega) (by omega)
    constructor
    · rintro ⟨x, hx, w⟩
      exact ⟨x, hx, decide_eq_true ((key x (List.mem_range.mp hx)).mp (of_decide_eq_true w))⟩
    · rintro ⟨x, hx, w⟩
      exact ⟨x, hx, decide_eq_true ((key x (List.mem_range.mp hx)).mpr (of_decide_eq_true w))⟩
  unfold V_11
  rw [nI_clamp (by omega), q]
  cases likN L i <;> simp
theorem VDs_congr {h h1 : mxH} {m : Nat} {st : Option Nat × (Nat → Nat)} (a : mx_i h1 109 7 = mx_i h 109 7) (b : mx_i h1 114 = mx_i h 114) (d : mx_i h1 110 = mx_i h 110) (v : VDs h m st) : VDs h1 m st := by
  unfold VDs at v ⊢
  rw [a, b, d]; exact v
theorem cl10 : ∀ (e d : Nat) {h : mxH} {Q : mxO → mxH → Prop} {i1 i2 : Int32}, mxG h → (∃ q, VDq e i1 i2 h q) → (∀ (h1 : mxH), pD e i1 i2 h h1 → Q (.inl none) h1) → mx_wp (d + e + 7) 10 0 (mx_fr 10 [.ref 109, .int i1, .int i2]) [] h Q := by
  intro e
  induction e with
  | zero =>
    intro d h Q i1 i2 G ok _
    obtain ⟨q, v, _, _, _, z⟩ := ok
    have := v.1.2.2.2
    omega
  | succ e ih =>
    intro d h Q i1 i2 G ok k
    refine all_mv (F := fun h1 => mxU (fun b => b = 109 ∨ b = 111 ∨ b = 113 ∨ b = 114) h h1 ∧ ∀ j, j ≠ 7 → mx_i h1 109 j = mx_i h 109 j) (R := fun q h1 => VDv h1 q.1 q.2.1 q.2.2.1 q.2.2.2.1 q.2.2.2.2.1 q.2.2.2.2.2.2.1 (dlN q.1 q.2.2.1 q.2.2.2.2.2.2.2.2 (q.2.1 - q.2.2.2.2.1) q.2.2.2.2.1 q.2.2.2.1 q.2.2.2.2.2.1 q.2.2.2.2.2.2.1 q.2.2.2.2.2.2.2.1) q.2.2.2.2.2.2.2.2) ok (fun q o => ?_) (fun h1 f r => k h1 ⟨f.1, f.2, fun c m w L s g gv st bd a1 => by
      have z := r (c, m, w, L, s, g, gv, st, bd) a1
      dsimp only at z
      exact z⟩)
    obtain ⟨c, m, w, L, s, g, gv, st, bd⟩ := q
    dsimp only
    have o : VDv h c m w L s gv st bd ∧ i1 = nI s ∧ i2 = nI g ∧ g ≤ 40 * s ∧ m + 1 = s + (e + 1) := o
    obtain ⟨V, rfl, rfl, hg, hn⟩ := o
    have V0 := V
    obtain ⟨⟨c0, c6, m10, sm⟩, v2, v6, ⟨v8, b8⟩, vw', wb, vL, Lb, vg, vs⟩ := V
    have em : m - s = e := by omega
    rw [em]
    obtain ⟨T, hT⟩ : ∃ T : mxO → mxH → Prop, T = (fun o h1 => o = .inl none ∧ (mxU (fun b => b = 109 ∨ b = 111 ∨ b = 113 ∨ b = 114) h h1 ∧ ∀ j, j ≠ 7 → mx_i h1 109 j = mx_i h 109 j) ∧ VDv h1 c m w L s gv (dlN c w bd e s L g gv st) bd) := ⟨_, rfl⟩
    rw [← hT]
    have fin : ∀ h1, mxU (fun b => b = 109 ∨ b = 111 ∨ b = 113 ∨ b = 114) h h1 → (∀ j, j ≠ 7 → mx_i h1 109 j = mx_i h 109 j) → VDv h1 c m w L s gv (dlN c w bd e s L g gv st) bd → T (.inl none) h1 := fun h1 a b v => by rw [hT]; exact ⟨rfl, ⟨a, b⟩, v⟩
    -- pruned
    have pr : pruN bd st g = true → T (.inl none) h := by
      intro p
      refine fin h mxU_rfl (fun _ _ => rfl) ?_
      have : dlN c w bd e s L g gv st = st := by
        cases e with
        | zero => show (if pruN bd st g = true then st else _) = st; rw [if_pos p]
        | succ e => show (if pruN bd st g = true then st else _) = st; rw [if_pos p]
      rw [this]; exact V0
    -- the end of a way
    have leaf : ¬ pruN bd st g = true → s = m → ∀ h3, h3 = mx_wi h 109 7 (nI g) → ∀ h6, h6 = mx_wrow h3 114 (va_cpy (mx_i h3 113) (mx_i h3 114) 0 0 10) → T (.inl none) h6 := by
      intro p es h3 e3 h6 e6
      have e0 : e = 0 := by omega
      subst e0
      have dl : dlN c w bd 0 s L g gv st = (some g, gv) := by
        show (if pruN bd st g = true then st else (some g, gv)) = _
        rw [if_neg p]
      have i6 : ∀ b, b ≠ 109 → b ≠ 114 → mx_i h6 b = mx_i h b := fun b b1 b2 => by rw [e6, wrow_ne b2, e3, wi_ne b1]
      have j6 : ∀ j, j ≠ 7 → mx_i h6 109 j = mx_i h 109 j := fun j hj => by rw [e6, wrow_ne (by decide), e3, wi_nj hj]
      refine fin h6 ?_ j6 ?_
      · rw [e6, e3]; exact mxU_tr (mxU_wi (.inl rfl)) (mxU_wrow (.inr (.inr (.inr rfl))))
      · rw [dl]
        refine ⟨⟨c0, c6, m10, sm⟩, by rw [j6 2 (by decide)]; exact v2, by rw [j6 6 (by decide)]; exact v6, ⟨by rw [j6 8 (by decide)]; exact v8, b8⟩, fun k hk => by rw [i6 112 (by decide) (by decide)]; exact vw' k hk, wb, fun i hi => by rw [i6 111 (by decide) (by decide)]; exact vL i hi, Lb, fun k hk => by rw [i6 113 (by decide) (by decide), i6 110 (by decide) (by decide)]; exact vg k hk, ?_⟩
        refine ⟨by omega, ?_, fun k hk => ?_⟩
        · rw [e6, wrow_ne (by decide), e3, wi_at rfl rfl]
        · rw [i6 110 (by decide) (by decide), e6, wrow_at, cpy0 (by omega), e3, wi_ne (by decide)]
          exact vg k (by omega)
    -- the loop
    have loop : ¬ pruN bd st g = true → s < m → H_10_35 (d + e + 8) h (nI s) (nI g) 0 T := by
      intro p es
      obtain ⟨e, rfl⟩ : ∃ z, e = z + 1 := ⟨e - 1, by omega⟩
      have dl : dlN c w bd (e + 1) s L g gv st = fo (fun i st => if likN L i = true then st else dlN c w bd e (s + 1) (upA L i (w s)) (max g (L i + w s)) (setN gv s i) st) c st := by
        show (if pruN bd st g = true then st else _) = _
        rw [if_neg p]
      rw [dl] at fin
      have J : ∀ j i h', i + j = c → mxU (fun b => b = 109 ∨ b = 111 ∨ b = 113 ∨ b = 114) h h' → (∀ j, j ≠ 7 → mx_i h' 109 j = mx_i h 109 j) → VDv h' c m w L s gv (fo (fun i st => if likN L i = true then st else dlN c w bd e (s + 1) (upA L i (w s)) (max g (L i + w s)) (setN gv s i) st) i st) bd → H_10_35 (d + (e + 1) + 8) h' (nI s) (nI g) (nI i) T := by
        intro j
        induction j with
        | zero =>
          intro i h' hi U f V
          have hi' : i = c := by omega
          subst hi'
          refine tr_10_35 (ev := e + 1) (ih d) (mxU_G U G) ⟨fun q => ?_, fun _ => fin h' U f V⟩
          rw [V.2.1] at q
          exact absurd q Int32.lt_irrefl
        | succ j ihj =>
          intro i h' hi U f V
          have V1 := V
          obtain ⟨_, w2, w6, ⟨w8, _⟩, ww, _, wL, _, wg, ws⟩ := V
          have G' := mxU_G U G
          have es' : fo (fun i st => if likN L i = true then st else dlN c w bd e (s + 1) (upA L i (w s)) (max g (L i + w s)) (setN gv s i) st) (i + 1) st = (fun i st => if likN L i = true then st else dlN c w bd e (s + 1) (upA L i (w s)) (max g (L i + w s)) (setN gv s i) st) i (fo (fun i st => if likN L i = true then st else dlN c w bd e (s + 1) (upA L i (w s)) (max g (L i + w s)) (setN gv s i) st) i st) := rfl
          have nx := fun hh => ihj (i + 1) hh (by omega)
          rw [es'] at nx
          dsimp only at nx
          generalize fo (fun i st => if likN L i = true then st else dlN c w bd e (s + 1) (upA L i (w s)) (max g (L i + w s)) (setN gv s i) st) i st = s1 at nx V1 ws
          have bL := Lb i
          have bw := wb s
          have ve := V11_e (h := h') (L := L) (c := c) (i := i) (by omega) c6 wL (fun i => by have := Lb i; omega)
          refine tr_10_35 (ev := e + 1) (ih d) G' ⟨fun _ => ⟨⟨i, by omega, rfl⟩, fun q => ⟨vp_in_nI (by omega) (by decide), vp_in_nI (by omega) (by decide), fun h6 e6 h9 e9 => ?_⟩, fun q => ?_⟩, fun q => absurd (by rw [w2]; exact nI_lt (by omega) (by omega)) q⟩
          · rw [nI_clamp (by omega), nI_clamp (by omega), wL i (by omega), ww s (by omega), nI_add] at e6
            rw [nI_clamp (by omega), nI_clamp (by omega), e6, wi_ne (by decide)] at e9
            rw [if_neg (ve.mp q)] at nx
            have a9 : ∀ b, b ≠ 111 → b ≠ 113 → mx_i h9 b = mx_i h' b := fun b b1 b2 => by rw [e9, wi_ne b2, wi_ne b1]
            have l9 : ∀ k, k < c → mx_i h9 111 k = nI (upA L i (w s) k) := by
              intro k hk
              rw [e9, wi_ne (by decide), wi_row]
              unfold upA
              by_cases z : k = i
              · rw [if_pos z, if_pos z, z]
              · rw [if_neg z, if_neg z]; exact wL k hk
            have mxg : (if nI g < mx_i h9 111 (nI i).toNatClampNeg then mx_i h9 111 (nI i).toNatClampNeg else nI g) = nI (max g (L i + w s)) := by
              rw [nI_clamp (by omega), l9 i (by omega)]
              unfold upA
              rw [if_pos rfl]
              by_cases z : g < L i + w s
              · rw [if_pos (nI_lt z (by omega)), Nat.max_eq_right (by omega)]
              · rw [if_neg (by rw [nI_lt_iff (by omega) (by omega)]; exact z), Nat.max_eq_left (by omega)]
            rw [mxg, nI_1]
            have U9 : mxU (fun b => b = 109 ∨ b = 111 ∨ b = 113 ∨ b = 114) h' h9 := by rw [e9]; exact mxU_tr (mxU_wi (.inr (.inl rfl))) (mxU_wi (.inr (.inr (.inl rfl))))
            have oq : VDq (e + 1) (nI (s + 1)) (nI (max g (L i + w s))) h9 (c, m, w, upA L i (w s), s + 1, max g (L i + w s), setN gv s i, s1, bd) := by
              refine ⟨⟨⟨c0, c6, m10, (by omega : s + 1 ≤ m)⟩, by rw [a9 109 (by decide) (by decide)]; exact w2, by rw [a9 109 (by decide) (by decide)]; exact w6, ⟨by rw [a9 109 (by decide) (by decide)]; exact w8, b8⟩, fun k hk => by rw [a9 112 (by decide) (by decide)]; exact ww k hk, wb, l9, fun k => ?_, fun k hk => ?_, VDs_congr (by rw [a9 109 (by decide) (by decide)]) (a9 114 (by decide) (by decide)) (a9 110 (by decide) (by decide)) ws⟩, rfl, rfl, ?_, ?_⟩
              · have := Lb k
                dsimp only
                unfold upA
                split <;> omega
              · dsimp only at hk ⊢
                rw [a9 110 (by decide) (by decide), e9, wi_row]
                unfold setN
                by_cases z : k = s
                · rw [if_pos z, if_pos z]
                · rw [if_neg z, if_neg z, wi_ne (by decide)]; exact wg k (by omega)
              · dsimp only
                omega
              · dsimp only
                omega
            refine ⟨⟨_, oq⟩, fun h14 u14 h17 e17 => ?_⟩
            obtain ⟨U14, f14, w14⟩ := u14
            have V14 := w14 _ _ _ _ _ _ _ _ _ oq
            rw [show m - (s + 1) = e by omega] at V14
            obtain ⟨_, x2, x6, ⟨x8, _⟩, xw, _, xL, _, xg, xs⟩ := V14
            rw [nI_clamp (by omega), nI_clamp (by omega), xL i (by omega), xw s (by omega)] at e17
            have r17 : upA L i (w s) i = L i + w s := by unfold upA; rw [if_pos rfl]
            rw [r17, pk_sub (by omega), show L i + w s - w s = L i by omega] at e17
            rw [nI_1]
            have a17 : ∀ b, b ≠ 111 → mx_i h17 b = mx_i h14 b := fun b b1 => by rw [e17, wi_ne b1]
            have i110 : mx_i h14 110 = mx_i h9 110 := mxU_i U14 (by omega)
            refine nx h17 (mxU_tr U (mxU_tr U9 (mxU_tr U14 (mxU_wi' e17 (.inr (.inl rfl)))))) (fun j hj => by rw [a17 109 (by decide), f14 j hj, a9 109 (by decide) (by decide), f j hj]) ⟨⟨c0, c6, m10, sm⟩, by rw [a17 109 (by decide)]; exact x2, by rw [a17 109 (by decide)]; exact x6, ⟨by rw [a17 109 (by decide)]; exact x8, b8⟩, fun k hk => by rw [a17 112 (by decide)]; exact xw k hk, wb, fun k hk => ?_, Lb, fun k hk => ?_, VDs_congr (by rw [a17 109 (by decide)]) (a17 114 (by decide)) (a17 110 (by decide)) xs⟩
            · rw [e17, wi_row]
              by_cases z : k = i
              · rw [if_pos z, z]
              · rw [if_neg z, xL k hk]
                unfold upA
                rw [if_neg z]
            · rw [a17 113 (by decide), a17 110 (by decide), xg k (by omega)]
              unfold setN
              rw [if_neg (by omega)]
          · rw [nI_1]
            have lk : likN L i = true := Classical.byContradiction (fun z => q (ve.mpr z))
            rw [if_pos lk] at nx
            exact nx h' U f V1
      exact J c 0 h (by omega) mxU_rfl (fun _ _ => rfl) V0
    have body : ¬ pruN bd st g = true → (nI s < mx_i h 109 6 → (nI s < 10 → H_10_35 (d + e + 8) h (nI s) (nI g) 0 T) ∧ (¬ nI s < 10 → ∀ h3, h3 = mx_wi h 109 7 (nI g) → ∀ h6, h6 = mx_wrow h3 114 (va_cpy (mx_i h3 113) (mx_i h3 114) 0 0 10) → T (.inl none) h6)) ∧ (¬ nI s < mx_i h 109 6 → ∀ h3, h3 = mx_wi h 109 7 (nI g) → ∀ h6, h6 = mx_wrow h3 114 (va_cpy (mx_i h3 113) (mx_i h3 114) 0 0 10) → T (.inl none) h6) := by
      intro p
      rw [v6, show (10 : Int32) = nI 10 from rfl, nI_lt_iff (by omega) (by omega), nI_lt_iff (by omega) (by omega)]
      exact ⟨fun q => ⟨fun _ => loop p q, fun z => by omega⟩, fun q => leaf p (by omega)⟩
    show mx_wp (d + e + 8) 10 0 (mx_fr 10 [.ref 109, .int (nI s), .int (nI g)]) [] h T
    refine tr_10_0 (ev := e) (ih d) G ⟨fun q => body ?_, fun q => ⟨fun q2 => ⟨fun q3 => body ?_, fun q3 => pr ?_⟩, fun q2 => pr ?_⟩⟩
    · unfold pruN
      unfold VDs at vs
      match st, vs with
      | (none, _), _ => simp
      | (some l, _), vs => rw [vs.2.1] at q; exact absurd q (nI_ne1 (by have := vs.1; omega))
    · unfold pruN
      unfold VDs at vs
      match st, vs with
      | (none, _), vs => simp
      | (some l, _), vs =>
        have := vs.1
        rw [vs.2.1, nI_lt_iff (by omega) (by omega)] at q2
        rw [v8, vs.2.1, nI_lt_iff (by omega) (by omega)] at q3
        simp
        omega
    · unfold pruN
      unfold VDs at vs
      match st, vs with
      | (none, _), vs => exact absurd vs q
      | (some l, _), vs =>
        have := vs.1
        rw [v8, vs.2.1, nI_lt_iff (by omega) (by omega)] at q3
        simp
        omega
    · unfold pruN
      unfold VDs at vs
      match st, vs with
      | (none, _), vs => exact absurd vs q
      | (some l, _), vs =>
        have := vs.1
        rw [vs.2.1, nI_lt_iff (by omega) (by omega)] at q2
        simp
        omega
