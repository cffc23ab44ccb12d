/-! SPECS by hand, 3 -/
theorem sT_165 : mxT 165 = (9, 0) := by decide +kernel
theorem sT_166 : mxT 166 = (5, 0) := by decide +kernel
theorem sT_167 : mxT 167 = (50, 6) := by decide +kernel
theorem sT_168 : mxT 168 = (50, 6) := by decide +kernel
theorem sT_169 : mxT 169 = (50, 6) := by decide +kernel
theorem sT_170 : mxT 170 = (50, 6) := by decide +kernel
theorem sT_171 : mxT 171 = (50, 6) := by decide +kernel
theorem sT_172 : mxT 172 = (7, 0) := by decide +kernel
theorem sT_173 : mxT 173 = (50, 10) := by decide +kernel
theorem sT_174 : mxT 174 = (50, 10) := by decide +kernel
theorem sT_175 : mxT 175 = (50, 10) := by decide +kernel
theorem sT_176 : mxT 176 = (50, 10) := by decide +kernel
theorem sT_177 : mxT 177 = (50, 10) := by decide +kernel
theorem sT_178 : mxT 178 = (1, 0) := by decide +kernel
theorem sT_179 : mxT 179 = (50, 240) := by decide +kernel
theorem sT_180 : mxT 180 = (50, 12) := by decide +kernel
theorem sT_181 : mxT 181 = (3, 0) := by decide +kernel
theorem sT_182 : mxT 182 = (50, 12) := by decide +kernel
theorem sT_183 : mxT 183 = (50, 12) := by decide +kernel
theorem sT_184 : mxT 184 = (50, 12) := by decide +kernel
theorem sT_185 : mxT 185 = (50, 400) := by decide +kernel
theorem sT_186 : mxT 186 = (50, 9) := by decide +kernel
theorem sT_187 : mxT 187 = (50, 64) := by decide +kernel
section
variable {d : Nat} {h : mxH} {Q : mxO → mxH → Prop} {a c : Nat} {i1 i2 i3 : Int32}
theorem sp_103 (G : mxG h) (hVa : (mxT a).1 = 9) (hVc : (mxT c).1 = 9) (k : ∀ h1, cpR 0 16 a c h h1 → Q (.inl none) h1) : mx_wp (d + 1) 103 0 (mx_fr 103 [.ref a, .ref c]) [] h Q := by
  have hd := dis_V hVa hVc
  refine tr_103_0 G hVa hVc (fun h1 q1 h2 q2 h3 q3 h4 e4 h5 e5 h6 e6 h7 e7 h8 e8 h9 e9 => k h9 ⟨?_, fun q j hq _ _ => ?_⟩)
  · refine mxU_tr (mxU_mono (fun b hb => ?_) q1.1) (mxU_tr (mxU_mono (fun b hb => ?_) q2.1) (mxU_tr (mxU_mono (fun b hb => ?_) q3.1) (mxU_tr (mxU_wrow' e4 ?_) (mxU_tr (mxU_wi' e5 ?_) (mxU_tr (mxU_wi' e6 ?_) (mxU_tr (mxU_wi' e7 ?_) (mxU_tr (mxU_wi' e8 ?_) (mxU_wi' e9 ?_))))))))
    all_goals omega
  · have o3 : ∀ z, ¬ (a + 1 ≤ z ∧ z < a + 15) → mx_i h3 z = mx_i h z := fun z hz => by
      rw [mxU_i q3.1 (by omega), mxU_i q2.1 (by omega), mxU_i q1.1 (by omega)]
    have o9 : ∀ z, z ≠ a → z ≠ a + 15 → mx_i h9 z = mx_i h3 z := fun z hz hz2 => by
      rw [e9, wi_ne hz, e8, wi_ne hz, e7, wi_ne hz, e6, wi_ne hz, e5, wi_ne hz, e4, wrow_ne hz2]
    have hq0 := hq
    unfold inV at hq
    have hk : q = 0 ∨ (1 ≤ q ∧ q < 7) ∨ (7 ≤ q ∧ q < 13) ∨ (13 ≤ q ∧ q < 15) ∨ q = 15 := by omega
    rcases hk with rfl | hk | hk | hk | rfl
    · show mx_i h9 a j = mx_i h c j
      have o4 : mx_i h4 a = mx_i h a := by rw [e4, wrow_ne (by omega), o3 a (by omega)]
      have ca : a = c ∨ (c ≠ a ∧ c ≠ a + 15) := by omega
      rcases ca with rfl | ⟨ca, cb⟩
      · have : j = 4 ∨ j = 5 ∨ j = 6 ∨ j = 7 ∨ j = 8 := by omega
        rcases this with rfl | rfl | rfl | rfl | rfl
        · rw [e9, wi_nj (by decide), e8, wi_nj (by decide), e7, wi_nj (by decide), e6, wi_nj (by decide), e5, wi_at rfl rfl, o4]
        · rw [e9, wi_nj (by decide), e8, wi_nj (by decide), e7, wi_nj (by decide), e6, wi_at rfl rfl, e5, wi_nj (by decide), o4]
        · rw [e9, wi_nj (by decide), e8, wi_nj (by decide), e7, wi_at rfl rfl, e6, wi_nj (by decide), e5, wi_nj (by decide), o4]
        · rw [e9, wi_nj (by decide), e8, wi_at rfl rfl, e7, wi_nj (by decide), e6, wi_nj (by decide), e5, wi_nj (by decide), o4]
        · rw [e9, wi_at rfl rfl, e8, wi_nj (by decide), e7, wi_nj (by decide), e6, wi_nj (by decide), e5, wi_nj (by decide), o4]
      · have oc : mx_i h3 c = mx_i h c := o3 c (by omega)
        have c4 : mx_i h4 c = mx_i h c := by rw [e4, wrow_ne cb, oc]
        have c5 : mx_i h5 c = mx_i h c := by rw [e5, wi_ne ca, c4]
        have c6 : mx_i h6 c = mx_i h c := by rw [e6, wi_ne ca, c5]
        have c7 : mx_i h7 c = mx_i h c := by rw [e7, wi_ne ca, c6]
        have c8 : mx_i h8 c = mx_i h c := by rw [e8, wi_ne ca, c7]
        have : j = 4 ∨ j = 5 ∨ j = 6 ∨ j = 7 ∨ j = 8 := by omega
        rcases this with rfl | rfl | rfl | rfl | rfl
        · rw [e9, wi_nj (by decide), e8, wi_nj (by decide), e7, wi_nj (by decide), e6, wi_nj (by decide), e5, wi_at rfl rfl, c4]
        · rw [e9, wi_nj (by decide), e8, wi_nj (by decide), e7, wi_nj (by decide), e6, wi_at rfl rfl, c5]
        · rw [e9, wi_nj (by decide), e8, wi_nj (by decide), e7, wi_at rfl rfl, c6]
        · rw [e9, wi_nj (by decide), e8, wi_at rfl rfl, c7]
        · rw [e9, wi_at rfl rfl, c8]
    · rw [o9 _ (by omega) (by omega), mxU_i q3.1 (by omega), mxU_i q2.1 (by omega), q1.2 q j hq0 hk.1 hk.2]
    · rw [o9 _ (by omega) (by omega), mxU_i q3.1 (by omega), q2.2 q j hq0 hk.1 hk.2, mxU_i q1.1 (by omega)]
    · rw [o9 _ (by omega) (by omega), q3.2 q j hq0 hk.1 hk.2, mxU_i q2.1 (by omega), mxU_i q1.1 (by omega)]
    · rw [e9, wi_ne (by omega), e8, wi_ne (by omega), e7, wi_ne (by omega), e6, wi_ne (by omega), e5, wi_ne (by omega), e4, wrow_at, cpy0 (by omega), o3 _ (by omega)]
/-- a row with one more in it -/
theorem wi_wrow {f : Nat → Int32} {x k : Nat} {v : Int32} : mx_wi (mx_wrow h x f) x k v = mx_wrow h x (fun j => if j = k then v else f j) := by
  unfold mx_wi mx_wrow
  have : mx_up (mx_i (h.1, h.2.1, h.2.2.1, mx_rw (mx_i h) x f, mx_r h, mx_l h)) x k v = mx_rw (mx_i h) x (fun j => if j = k then v else f j) := by
    funext b j
    show (if b = x ∧ j = k then v else (if b = x then f j else mx_i h b j)) = (if b = x then (if j = k then v else f j) else mx_i h b j)
    by_cases hb : b = x <;> by_cases hj : j = k <;> simp [hb, hj]
  rw [this]
  rfl
theorem wrow_self {x : Nat} : mx_wrow h x (mx_i h x) = h := by
  unfold mx_wrow
  have : mx_rw (mx_i h) x (mx_i h x) = mx_i h := by
    funext b j
    show (if b = x then mx_i h x j else mx_i h b j) = mx_i h b j
    by_cases hb : b = x <;> simp [hb]
  rw [this]
  rfl
def shf (r : Nat → Int32) (z : Nat) : Nat → Int32 := fun k => if 129 + z < k ∧ k < 369 then r (k - 4) else r k
def mLog (r : Nat → Int32) (i1 i2 i3 : Int32) : Nat → Int32 := fun k => if k = 7 then V_192 r 60 (r 7 + 1) else if k = 132 then i3 else if k = 131 then i2 else if k = 130 then i1 else if k = 129 then r 5 else shf r 3 k
theorem sp_251 (G : mxG h) (k : Q (.inl none) (mx_wrow h 382 (mLog (mx_i h 382) i1 i2 i3))) : mx_wp (d + 1) 251 0 (mx_fr 251 [.ref 381, .int i1, .int i2, .int i3]) [] h Q := by
  refine tr_251_0 G ?_
  have L : ∀ z, 3 ≤ z → z ≤ 239 → ∀ hz, hz = mx_wrow h 382 (shf (mx_i h 382) z) → H_251_2 (d + 1) hz i1 i2 i3 (nI z) Q := by
    intro z h3
    induction h3 with
    | refl =>
      intro _ hz ez
      have Gz : mxG hz := ez ▸ mxG_wrow G
      refine tr_251_2 Gz ⟨fun c h2 e2 h5 e5 h8 e8 h11 e11 h14 e14 => ?_, fun c => absurd (by decide) c⟩
      subst ez
      rw [wi_wrow] at e2
      subst e2
      rw [wi_wrow] at e5
      subst e5
      rw [wi_wrow] at e8
      subst e8
      rw [wi_wrow] at e11
      subst e11
      rw [wi_wrow] at e14
      subst e14
      refine (congrArg (fun f => Q (.inl none) (mx_wrow h 382 f)) (?_ : _ = mLog (mx_i h 382) i1 i2 i3)).mpr k
      funext j
      simp only [wrow_at]
      unfold mLog shf
      by_cases j7 : j = 7
      · subst j7; simp [V_192]
      · simp only [j7, if_false]
        by_cases j2 : j = 132
        · simp [j2]
        · by_cases j1 : j = 131
          · simp [j1]
          · by_cases j0 : j = 130
            · simp [j0]
            · by_cases j9 : j = 129 <;> simp [j2, j1, j0, j9]
    | step hle ih =>
      rename_i z
      intro hz1 hz ez
      have hle : 3 ≤ z := hle
      have Gz : mxG hz := ez ▸ mxG_wrow G
      have e1 : (129 : Int32) + nI (z + 1) = nI (130 + z) := by rw [show (129 : Int32) = nI 129 from rfl, nI_add]; congr 1; omega
      have e2 : (129 : Int32) + nI (z + 1) - 4 = nI (126 + z) := by
        rw [e1, show (4 : Int32) = nI 4 from rfl, pk_sub (by omega)]; congr 1; omega
      refine tr_251_2 Gz ⟨fun c => absurd c (nI_nlt (b := 4) (by omega) (by omega)), fun c => ⟨?_, ?_, fun h19 e19 => ?_⟩⟩
      · show vp_in (129 + nI (z + 1) - 4) 769
        rw [e2]; exact vp_in_nI (by omega) (by decide)
      · show vp_in (129 + nI (z + 1)) 769
        rw [e1]; exact vp_in_nI (by omega) (by decide)
      · show H_251_2 (d + 1) h19 i1 i2 i3 (nI (z + 1) + (-1)) Q
        rw [pk_m1]
        refine ih (by omega) h19 ?_
        have e19 : h19 = mx_wi hz 382 (129 + nI (z + 1)).toNatClampNeg (mx_i hz 382 (129 + nI (z + 1) - 4).toNatClampNeg) := e19
        rw [e2, e1, nI_clamp (by omega), nI_clamp (by omega), ez, wi_wrow] at e19
        rw [e19]
        congr 1
        funext j
        rw [wrow_at]
        unfold shf
        by_cases j1 : j = 130 + z
        · subst j1
          rw [if_pos rfl, if_neg (by omega), if_pos (by omega)]
          exact congrArg (mx_i h 382) (by omega)
        · rw [if_neg j1]
          by_cases j2 : 129 + (z + 1) < j ∧ j < 369
          · rw [if_pos j2, if_pos (by omega)]
          · rw [if_neg j2, if_neg (by omega)]
  refine L 239 (by decide) (by decide) h ?_
  have : shf (mx_i h 382) 239 = mx_i h 382 := by
    funext j
    unfold shf
    rw [if_neg (by omega)]
  rw [this, wrow_self]
/-- rows that are remembered -/
def rmM (h h1 : mxH) : Prop := mxU (fun b => b = 381 ∨ b = 385) h h1 ∧ (∀ j, j ≠ 6 → mx_i h1 381 j = mx_i h 381 j) ∧ ∀ c, mx_i h 381 6 = nI c → (c < 12 → mx_i h1 381 6 = nI (c + 1) ∧ (∀ i k, i < c → k < 369 → mx_i h1 385 (369 * i + k) = mx_i h 385 (369 * i + k)) ∧ ∀ k, k < 369 → mx_i h1 385 (369 * c + k) = mx_i h 382 k) ∧ (c = 12 → mx_i h1 381 6 = nI 12 ∧ (∀ i k, i < 11 → k < 369 → mx_i h1 385 (369 * i + k) = mx_i h 385 (369 * (i + 1) + k)) ∧ ∀ k, k < 369 → mx_i h1 385 (369 * 11 + k) = mx_i h 382 k)
theorem f250a {n : Nat} (hn : n ≤ 4059) (s : mxH) : mxU (fun b => b = 385) s (fo F_250_6 n s) ∧ ∀ j, mx_i (fo F_250_6 n s) 385 j = if j < n then mx_i s 385 (j + 369) else mx_i s 385 j := by
  induction n with
  | zero => exact ⟨mxU_rfl, fun j => by rw [if_neg (by omega)]; rfl⟩
  | succ n ih =>
    obtain ⟨u, e⟩ := ih (by omega)
    have e1 : (nI n + 369).toNatClampNeg = n + 369 := by rw [show (369 : Int32) = nI 369 from rfl, nI_add, nI_clamp (by omega)]
    have eF : fo F_250_6 (n + 1) s = mx_wi (fo F_250_6 n s) 385 n (mx_i (fo F_250_6 n s) 385 (n + 369)) := by
      show F_250_6 n _ = _
      unfold F_250_6
      rw [e1, nI_clamp (by omega)]
    refine ⟨mxU_tr u (mxU_wi' eF rfl), fun j => ?_⟩
    rw [eF]
    by_cases hj : j = n
    · rw [wi_at rfl hj, e, if_neg (by omega), if_pos (by omega), hj]
    · rw [wi_nj hj, e]
      by_cases h2 : j < n
      · rw [if_pos h2, if_pos (by omega)]
      · rw [if_neg h2, if_neg (by omega)]
theorem f250b {n c : Nat} (hn : n ≤ 369) (hc : c ≤ 11) (s : mxH) (es : mx_i s 381 6 = nI c) : mxU (fun b => b = 385) s (fo F_250_29 n s) ∧ ∀ j, mx_i (fo F_250_29 n s) 385 j = if 369 * c ≤ j ∧ j < 369 * c + n then mx_i s 382 (j - 369 * c) else mx_i s 385 j := by
  induction n with
  | zero => exact ⟨mxU_rfl, fun j => by rw [if_neg (by omega)]; rfl⟩
  | succ n ih =>
    obtain ⟨u, e⟩ := ih (by omega)
    have e6 : mx_i (fo F_250_29 n s) 381 6 = nI c := by rw [mxU_i u (by omega)]; exact es
    have e1 : (369 * nI c + nI n).toNatClampNeg = 369 * c + n := by rw [show (369 : Int32) = nI 369 from rfl, pk_mul, nI_add, nI_clamp (by omega)]
    have eF : fo F_250_29 (n + 1) s = mx_wi (fo F_250_29 n s) 385 (369 * c + n) (mx_i (fo F_250_29 n s) 382 n) := by
      show mx_wi (fo F_250_29 n s) 385 ((369 * (mx_i (fo F_250_29 n s) 381 6)) + (nI n)).toNatClampNeg (mx_i (fo F_250_29 n s) 382 (nI n).toNatClampNeg) = _
      rw [e6, e1, nI_clamp (by omega)]
    refine ⟨mxU_tr u (mxU_wi' eF rfl), fun j => ?_⟩
    rw [eF, mxU_i u (b := 382) (by omega)]
    by_cases hj : j = 369 * c + n
    · rw [wi_at rfl hj, if_pos (by omega), hj]
      exact congrArg (mx_i s 382) (by omega)
    · rw [wi_nj hj, e]
      by_cases h2 : 369 * c ≤ j ∧ j < 369 * c + n
      · rw [if_pos h2, if_pos (by omega)]
      · rw [if_neg h2, if_neg (by omega)]
theorem sp_250 (G : mxG h) (hcb : cB (mx_i h 381 6) 12) (k : ∀ h1, rmM h h1 → Q (.inl none) h1) : mx_wp d 250 0 (mx_fr 250 [.ref 381]) [] h Q := by
  obtain ⟨c0, hc0, ec⟩ := hcb
  have tail : ∀ s c, mxG s → c ≤ 11 → mx_i s 381 6 = nI c → (∀ h1, mxU (fun b => b = 381 ∨ b = 385) s h1 → (∀ j, j ≠ 6 → mx_i h1 381 j = mx_i s 381 j) → mx_i h1 381 6 = nI (c + 1) → (∀ j, mx_i h1 385 j = if 369 * c ≤ j ∧ j < 369 * c + 369 then mx_i s 382 (j - 369 * c) else mx_i s 385 j) → Q (.inl none) h1) → H_250_29 d s 0 Q := by
    intro s c Gs hc es kk
    refine lp_250_29 (s0 := s) (n := 369) 0 Gs (fun _ _ _ => rfl) (by decide) (by decide) (fun z _ hz => ?_) (fun h2 e2 => ?_)
    · obtain ⟨u, e⟩ := f250b (n := z) (by omega) hc s es
      refine ⟨vp_in_nI (by omega) (by decide), ?_, trivial⟩
      rw [fz_fo, mxU_i u (b := 381) (by omega), es, show (369 : Int32) = nI 369 from rfl, pk_mul, nI_add]
      exact vp_in_nI (by omega) (by decide)
    · rw [fz_fo] at e2
      obtain ⟨u, e⟩ := f250b (n := 369) (by omega) hc s es
      refine kk h2 (mxU_tr (mxU_mono (fun b hb => .inr hb) u) (mxU_wi' e2 (.inl rfl))) (fun j hj => ?_) ?_ (fun j => ?_)
      · rw [e2, wi_nj hj, mxU_i u (b := 381) (by omega)]
      · rw [e2, wi_at rfl rfl, mxU_i u (b := 381) (by omega), es, nI_1]
      · rw [e2, wi_ne (by decide), e]
  refine tr_250_0 G ⟨fun c12 => ?_, fun c12 => ?_⟩
  · have hc : c0 = 12 := by rw [ec] at c12; exact (nI_eq (by omega) (by decide)).mp c12
    subst hc
    refine lp_250_6 (s0 := h) (n := 4059) 0 G (fun _ _ _ => rfl) (by decide) (by decide) (fun z _ hz => ⟨?_, vp_in_nI (by omega) (by decide), trivial⟩) (fun h2 e2 => ?_)
    · rw [show (369 : Int32) = nI 369 from rfl, nI_add]; exact vp_in_nI (by omega) (by decide)
    · rw [fz_fo] at e2
      obtain ⟨u, e⟩ := f250a (n := 4059) (by omega) h
      have e6 : mx_i h2 381 6 = nI 11 := by rw [e2, wi_at rfl rfl, mxU_i u (b := 381) (by omega), ec]; decide
      have u2 : mxU (fun b => b = 381 ∨ b = 385) h h2 := mxU_tr (mxU_mono (fun b hb => .inr hb) u) (mxU_wi' e2 (.inl rfl))
      refine tail h2 11 (mxU_G u2 G) (by omega) e6 (fun h1 u1 o1 o6 o5 => k h1 ⟨mxU_tr u2 u1, fun j hj => ?_, fun c q => ⟨fun q2 => ?_, fun _ => ⟨o6, fun i kk hi hk => ?_, fun kk hk => ?_⟩⟩⟩)
      · rw [o1 j hj, e2, wi_nj hj, mxU_i u (b := 381) (by omega)]
      · rw [ec] at q
        exact absurd ((nI_eq (by decide) (by omega)).mp q) (by omega)
      · rw [o5, if_neg (by omega), e2, wi_ne (by decide), e, if_pos (by omega)]
        exact congrArg (mx_i h 385) (by omega)
      · rw [o5, if_pos (by omega), mxU_i u2 (b := 382) (by omega)]
        exact congrArg (mx_i h 382) (by omega)
  · have hc : c0 < 12 := by
      rcases Nat.lt_or_ge c0 12 with q | q
      · exact q
      · exact absurd (by rw [ec, show c0 = 12 by omega]; rfl) c12
    refine tail h c0 G (by omega) ec (fun h1 u1 o1 o6 o5 => k h1 ⟨u1, o1, fun c q => ?_⟩)
    rw [ec] at q
    refine ⟨fun q2 => ?_, fun q2 => ?_⟩
    · have hcc : c0 = c := (nI_eq (by omega) (by omega)).mp q
      subst hcc
      refine ⟨o6, fun i kk hi hk => ?_, fun kk hk => ?_⟩
      · rw [o5, if_neg (by omega)]
      · rw [o5, if_pos (by omega)]
        exact congrArg (mx_i h 382) (by omega)
    · subst q2
      exact absurd ((nI_eq (by omega) (by decide)).mp q) (by omega)
/-- all are somewhere -/
def plOk (h : mxH) (a : Nat) : Prop := ∀ x, x < (mx_i h (a + 1) 0).toNatClampNeg → isI (mx_i h (a + 4) x) 12
def plOm (r : Nat → Int32) : Prop := ∀ x, x < (r 3).toNatClampNeg → isI (V_196 r (nI x) 2) 12
def V_117 (h : mxH) (a : Nat) (i1 : Int32) : Int32 := (fo (F_117_6 h a i1) (mx_i h (a + 1) 0).toNatClampNeg (-1, 0)).1
theorem sp_117 (G : mxG h) (hVa : (mxT a).1 = 9) (hcp : cB (mx_i h (a + 1) 0) 6) (hcs : cB (mx_i h (a + 7) 0) 10) (hpl : plOk h a) (ht : isI i1 12) (k : Q (.inl (some (.int (V_117 h a i1)))) h) : mx_wp (d + 2) 117 0 (mx_fr 117 [.ref a, .int i1]) [] h Q := by
  obtain ⟨n, hn, hB⟩ := hcp
  unfold V_117 at k
  unfold plOk at hpl
  rw [hB, nI_clamp (by omega)] at k hpl
  refine tr_117_0 G hVa ?_
  refine lp_117_6 (s0 := (-1, 0)) 0 G hVa hB (by omega) (Nat.zero_le _) (fun z _ hz => ?_) ?_
  · refine ⟨⟨fun _ => ⟨vp_in_nI (by omega) (by decide), fun _ => trivial, fun _ => ⟨hcs, trivial⟩⟩, fun _ => trivial⟩, ⟨fun _ => ⟨hcs, vp_in_nI (by omega) (by decide), ?_, ht, trivial⟩, fun _ => trivial⟩, trivial⟩
    rw [nI_clamp (by omega)]; exact hpl z hz
  · rw [fz_fo]; exact k
/-- a sum, none if one is none -/
def sN (f : Nat → Int32) : Nat → Nat → Int32 → Int32
  | 0, _, s => s
  | k + 1, z, s => if f z = -1 then -1 else sN f k (z + 1) (s + f z)
def V_119 (h : mxH) (a : Nat) (i1 : Int32) : Int32 := sN (fun z => V_116 h a (nI z) i1) (mx_i h (a + 1) 0).toNatClampNeg 0 0
theorem sp_119 (G : mxG h) (hVa : (mxT a).1 = 9) (hcp : cB (mx_i h (a + 1) 0) 6) (hcs : cB (mx_i h (a + 7) 0) 10) (hpl : plOk h a) (ht : isI i1 12) (k : Q (.inl (some (.int (V_119 h a i1)))) h) : mx_wp (d + 2) 119 0 (mx_fr 119 [.ref a, .int i1]) [] h Q := by
  obtain ⟨n, hn, hB⟩ := hcp
  unfold V_119 at k
  unfold plOk at hpl
  rw [hB, nI_clamp (by omega)] at k hpl
  refine tr_119_0 G hVa ?_
  have L : ∀ (j z : Nat) (s : Int32), z + j = n → Q (.inl (some (.int (sN (fun z => V_116 h a (nI z) i1) j z s)))) h → H_119_4 (d + 2) h a i1 s (nI z) Q := by
    intro j
    induction j with
    | zero =>
      intro z s hz kk
      have hz : z = n := by omega
      subst hz
      exact tr_119_4 G hVa ⟨fun c => absurd (hB ▸ c) Int32.lt_irrefl, fun _ => kk⟩
    | succ j ih =>
      intro z s hz k
      rw [sN] at k
      refine tr_119_4 G hVa ⟨fun c => ⟨hcs, vp_in_nI (by omega) (by decide), ?_, ht, fun q => ?_, fun q => ?_⟩, fun c => absurd (hB.symm ▸ nI_lt (by omega) (by omega)) c⟩
      · rw [nI_clamp (by omega)]; exact hpl z (by omega)
      · rw [if_pos q] at k; exact k
      · rw [if_neg q] at k
        rw [← nI_succ]
        exact ih (z + 1) _ (by omega) k
  exact L n 0 0 (by omega) k
def V_283 (r : Nat → Int32) (i1 : Int32) : Int32 := sN (fun z => V_262 r (nI z) i1) (r 3).toNatClampNeg 0 0
theorem sp_283 (G : mxG h) (hcp : cB (mx_i h 382 3) 6) (hcs : cB (mx_i h 382 4) 10) (hpl : plOm (mx_i h 382)) (ht : isI i1 12) (k : Q (.inl (some (.int (V_283 (mx_i h 382) i1)))) h) : mx_wp (d + 4) 283 0 (mx_fr 283 [.ref 381, .int i1]) [] h Q := by
  obtain ⟨n, hn, hB⟩ := hcp
  unfold V_283 at k
  unfold plOm at hpl
  rw [hB, nI_clamp (by omega)] at k hpl
  refine tr_283_0 G ?_
  have L : ∀ (j z : Nat) (s : Int32), z + j = n → Q (.inl (some (.int (sN (fun z => V_262 (mx_i h 382) (nI z) i1) j z s)))) h → H_283_4 (d + 4) h i1 s (nI z) Q := by
    intro j
    induction j with
    | zero =>
      intro z s hz kk
      have hz : z = n := by omega
      subst hz
      exact tr_283_4 G ⟨fun c => absurd (hB ▸ c) Int32.lt_irrefl, fun _ => kk⟩
    | succ j ih =>
      intro z s hz k
      rw [sN] at k
      refine tr_283_4 G ⟨fun c => ⟨hcs, vpU (by omega), hpl z (by omega), ht, fun q => ?_, fun q => ?_⟩, fun c => absurd (hB.symm ▸ nI_lt (by omega) (by omega)) c⟩
      · rw [if_pos q] at k; exact k
      · rw [if_neg q] at k
        rw [← nI_succ]
        exact ih (z + 1) _ (by omega) k
  exact L n 0 0 (by omega) k
end
