/-! THE LOG: a row more in both -/
section
variable {h : mxH} {a n : Nat} {x0 x1 x2 x3 : Int32}
theorem b4 {n w : Nat} (hn : n ≤ 60) (hw : w < 4) : (nI n * 4 + nI w) = nI (n * 4 + w) := by
  rw [show (4 : Int32) = nI 4 from rfl, pk_mul, nI_add]
theorem b4c {n w : Nat} (hn : n ≤ 60) (hw : w < 4) : (nI n * 4 + nI w).toNatClampNeg = n * 4 + w := by
  rw [b4 hn hw, nI_clamp (by omega)]
theorem b40 {n : Nat} (hn : n ≤ 60) : (nI n * 4).toNatClampNeg = n * 4 := by
  rw [show (4 : Int32) = nI 4 from rfl, pk_mul, nI_clamp (by omega)]
theorem b4v {n w : Nat} (hn : n < 60) (hw : w < 4) : vp_in (nI n * 4 + nI w) 240 := by
  rw [b4 (by omega) hw]; exact vp_in_nI (by omega) (by decide)
theorem b4v0 {n : Nat} (hn : n < 60) : vp_in (nI n * 4) 240 := by
  rw [show (4 : Int32) = nI 4 from rfl, pk_mul]; exact vp_in_nI (by omega) (by decide)
theorem w2a (hc : mx_i h (a + 13) 0 = nI n) (hn : n < 60) : W_2 h a x0 x1 x2 x3 = mx_wi (mx_wi (mx_wi (mx_wi (mx_wi h (a + 14) (n * 4) x0) (a + 14) (n * 4 + 1) x1) (a + 14) (n * 4 + 2) x2) (a + 14) (n * 4 + 3) x3) (a + 13) 0 (nI (n + 1)) := by
  have e1 : (nI n * 4 + 1).toNatClampNeg = n * 4 + 1 := b4c (w := 1) (by omega) (by decide)
  have e2 : (nI n * 4 + 2).toNatClampNeg = n * 4 + 2 := b4c (w := 2) (by omega) (by decide)
  have e3 : (nI n * 4 + 3).toNatClampNeg = n * 4 + 3 := b4c (w := 3) (by omega) (by decide)
  unfold W_2
  rw [hc, if_pos (show nI n < 60 from nI_lt hn (by decide)), b40 (by omega), e1, e2, e3]
  rw [wi_ne (by omega), wi_ne (by omega), wi_ne (by omega), wi_ne (by omega), hc, nI_1]
theorem w2b (hc : mx_i h (a + 13) 0 = nI 60) : W_2 h a x0 x1 x2 x3 = mx_wi (mx_wi (mx_wi (mx_wi (mx_wi (mx_wi (mx_wrow h (a + 14) (va_cpy (mx_i h (a + 14)) (mx_i h (a + 14)) 4 0 236)) (a + 13) 0 59) (a + 14) 236 x0) (a + 14) 237 x1) (a + 14) 238 x2) (a + 14) 239 x3) (a + 13) 0 60 := by
  unfold W_2
  rw [hc, if_neg (show ¬ nI 60 < 60 by decide), wi_at rfl rfl]
  have e0 : ((59 : Int32) * 4).toNatClampNeg = 236 := by decide
  have e1 : ((59 : Int32) * 4 + 1).toNatClampNeg = 237 := by decide
  have e2 : ((59 : Int32) * 4 + 2).toNatClampNeg = 238 := by decide
  have e3 : ((59 : Int32) * 4 + 3).toNatClampNeg = 239 := by decide
  rw [e0, e1, e2, e3]
  rw [wi_ne (by omega), wi_ne (by omega), wi_ne (by omega), wi_ne (by omega), wi_at rfl rfl]
  rfl
def lgx (x0 x1 x2 x3 : Int32) (w : Nat) : Int32 := if w = 0 then x0 else if w = 1 then x1 else if w = 2 then x2 else x3
theorem w2_U : mxU (fun b => b = a + 13 ∨ b = a + 14) h (W_2 h a x0 x1 x2 x3) := by
  unfold W_2
  split
  · exact mxU_tr (mxU_wi (.inr rfl)) (mxU_tr (mxU_wi (.inr rfl)) (mxU_tr (mxU_wi (.inr rfl)) (mxU_tr (mxU_wi (.inr rfl)) (mxU_wi (.inl rfl)))))
  · exact mxU_tr (mxU_wrow (.inr rfl)) (mxU_tr (mxU_wi (.inl rfl)) (mxU_tr (mxU_wi (.inr rfl)) (mxU_tr (mxU_wi (.inr rfl)) (mxU_tr (mxU_wi (.inr rfl)) (mxU_tr (mxU_wi (.inr rfl)) (mxU_wi (.inl rfl)))))))
theorem w2_s (hc : mx_i h (a + 13) 0 = nI n) (hn : n ≤ 60) : mx_i (W_2 h a x0 x1 x2 x3) (a + 13) 0 = nI (min (n + 1) 60) ∧ (∀ w, w < 4 → mx_i (W_2 h a x0 x1 x2 x3) (a + 14) ((min (n + 1) 60 - 1) * 4 + w) = lgx x0 x1 x2 x3 w) ∧ ∀ g w, g + 1 < min (n + 1) 60 → w < 4 → mx_i (W_2 h a x0 x1 x2 x3) (a + 14) ((min (n + 1) 60 - 1 - (g + 1)) * 4 + w) = mx_i h (a + 14) ((n - 1 - g) * 4 + w) := by
  rcases Nat.lt_or_ge n 60 with h6 | h6
  · rw [w2a hc h6, show min (n + 1) 60 = n + 1 by omega]
    refine ⟨wi_at rfl rfl, fun w hw => ?_, fun g w hg hw => ?_⟩
    · rw [wi_ne (by omega), show n + 1 - 1 = n by omega]
      have : w = 0 ∨ w = 1 ∨ w = 2 ∨ w = 3 := by omega
      rcases this with rfl | rfl | rfl | rfl
      · rw [wi_nj (by omega), wi_nj (by omega), wi_nj (by omega)]; exact wi_at rfl rfl
      · rw [wi_nj (by omega), wi_nj (by omega), wi_at rfl rfl]; rfl
      · rw [wi_nj (by omega), wi_at rfl rfl]; rfl
      · rw [wi_at rfl rfl]; rfl
    · rw [wi_ne (by omega), wi_nj (by omega), wi_nj (by omega), wi_nj (by omega), wi_nj (by omega)]
      exact congrArg _ (by omega)
  · have h6 : n = 60 := by omega
    subst h6
    rw [w2b hc, show min (60 + 1) 60 = 60 by omega]
    refine ⟨wi_at rfl rfl, fun w hw => ?_, fun g w hg hw => ?_⟩
    · rw [wi_ne (by omega)]
      have : w = 0 ∨ w = 1 ∨ w = 2 ∨ w = 3 := by omega
      rcases this with rfl | rfl | rfl | rfl
      · rw [wi_nj (by omega), wi_nj (by omega), wi_nj (by omega)]; exact wi_at rfl rfl
      · rw [wi_nj (by omega), wi_nj (by omega), wi_at rfl rfl]; rfl
      · rw [wi_nj (by omega), wi_at rfl rfl]; rfl
      · rw [wi_at rfl rfl]; rfl
    · rw [wi_ne (by omega), wi_nj (by omega), wi_nj (by omega), wi_nj (by omega), wi_nj (by omega), wi_ne (by omega), wrow_at]
      unfold va_cpy
      rw [if_pos (by omega)]
      exact congrArg _ (by omega)
theorem lg_pre (hcb : cB (mx_i h (a + 13) 0) 60) : (((mx_i h (a + 13) 0) < 60 → (vp_in ((mx_i h (a + 13) 0) * 4) 240 ∧ (vp_in (((mx_i h (a + 13) 0) * 4) + 1) 240 ∧ (vp_in (((mx_i h (a + 13) 0) * 4) + 2) 240 ∧ (vp_in (((mx_i h (a + 13) 0) * 4) + 3) 240 ∧ True))))) ∧ (¬ (mx_i h (a + 13) 0) < 60 → (vp_in ((mx_i (mx_wi (mx_wrow h (a + 14) (va_cpy (mx_i h (a + 14)) (mx_i h (a + 14)) 4 0 236)) (a + 13) 0 59) (a + 13) 0) * 4) 240 ∧ (vp_in (((mx_i (mx_wi (mx_wrow h (a + 14) (va_cpy (mx_i h (a + 14)) (mx_i h (a + 14)) 4 0 236)) (a + 13) 0 59) (a + 13) 0) * 4) + 1) 240 ∧ (vp_in (((mx_i (mx_wi (mx_wrow h (a + 14) (va_cpy (mx_i h (a + 14)) (mx_i h (a + 14)) 4 0 236)) (a + 13) 0 59) (a + 13) 0) * 4) + 2) 240 ∧ (vp_in (((mx_i (mx_wi (mx_wrow h (a + 14) (va_cpy (mx_i h (a + 14)) (mx_i h (a + 14)) 4 0 236)) (a + 13) 0 59) (a + 13) 0) * 4) + 3) 240 ∧ True)))))) := by
  obtain ⟨n, hn, e⟩ := hcb
  refine ⟨fun c => ?_, fun c => ?_⟩
  · rw [e] at c ⊢
    have hn : n < 60 := (nI_ltI (by omega) (by decide)).mp c
    exact ⟨b4v0 hn, b4v (w := 1) hn (by decide), b4v (w := 2) hn (by decide), b4v (w := 3) hn (by decide), trivial⟩
  · rw [wi_at rfl rfl]
    exact ⟨vpl rfl, vpl rfl, vpl rfl, vpl rfl, trivial⟩
end
/-- the logs stay coupled -/
theorem CpL_log {h h1 : mxH} {a : Nat} {r r' : Nat → Int32} {nl : Nat} {x0 x1 x2 x3 : Int32} (hn : nl ≤ 60) (hc : mx_i h (a + 13) 0 = nI nl) (L : CpL (vw h a) r nl) (e13 : mx_i h1 (a + 13) = mx_i (W_2 h a x0 x1 x2 x3) (a + 13)) (e14 : mx_i h1 (a + 14) = mx_i (W_2 h a x0 x1 x2 x3) (a + 14)) (hx0 : x0 = r 5) (hr : ∀ k, 129 ≤ k → k < 369 → r' k = mLog r x1 x2 x3 k) : CpL (vw h1 a) r' (min (nl + 1) 60) ∧ mx_i h1 (a + 13) 0 = nI (min (nl + 1) 60) := by
  obtain ⟨s1, s2, s3⟩ := w2_s (x0 := x0) (x1 := x1) (x2 := x2) (x3 := x3) hc hn
  refine ⟨fun g w hg hw => ?_, by rw [e13]; exact s1⟩
  show mx_i h1 (a + 14) _ = _
  rw [e14, hr _ (by omega) (by omega)]
  rcases Nat.eq_zero_or_pos g with rfl | hg0
  · rw [Nat.sub_zero, s2 w hw]
    have : w = 0 ∨ w = 1 ∨ w = 2 ∨ w = 3 := by omega
    rcases this with rfl | rfl | rfl | rfl
    · simp [lgx, mLog, hx0]
    · simp [lgx, mLog]
    · simp [lgx, mLog]
    · simp [lgx, mLog]
  · obtain ⟨g', rfl⟩ : ∃ g', g = g' + 1 := ⟨g - 1, by omega⟩
    rw [s3 g' w hg hw]
    have hL : mx_i h (a + 14) ((nl - 1 - g') * 4 + w) = r (129 + 4 * g' + w) := L g' w (by omega) hw
    rw [hL]
    unfold mLog shf
    rw [if_neg (by omega), if_neg (by omega), if_neg (by omega), if_neg (by omega), if_neg (by omega), if_pos (by omega)]
    exact congrArg r (by omega)
theorem mLog_7 {r : Nat → Int32} {x1 x2 x3 : Int32} {nl : Nat} (e : r 7 = nI nl) (hn : nl ≤ 60) : mLog r x1 x2 x3 7 = nI (min (nl + 1) 60) := by
  unfold mLog V_192
  rw [if_pos rfl, e, nI_1]
  by_cases h6 : nl = 60
  · subst h6; rfl
  · rw [if_neg (show ¬ (60 : Int32) < nI (nl + 1) from nI_nlt (b := nl + 1) (a := 60) (by omega) (by decide))]
    congr 1
    omega
theorem mLog_lo {r : Nat → Int32} {x1 x2 x3 : Int32} {k : Nat} (h7 : k ≠ 7) (hk : k < 129 ∨ 369 ≤ k) : mLog r x1 x2 x3 k = r k := by
  unfold mLog shf
  rw [if_neg h7, if_neg (by omega), if_neg (by omega), if_neg (by omega), if_neg (by omega), if_neg (by omega)]
