/-! PIECES of what stays so, each by the cells that it rests on -/
def agr (P : Nat → Prop) (h h1 : mxH) : Prop := mx_c h1 = mx_c h ∧ (∀ b, b ≠ 106 → mx_r h1 b = mx_r h b) ∧ ∀ b, ¬ P b → mx_i h1 b = mx_i h b
section
variable {P P' : Nat → Prop} {h h1 h2 hm : mxH} {vn vd vr vq : Nat}
theorem agr_rfl : agr P h h := ⟨rfl, fun _ _ => rfl, fun _ _ => rfl⟩
theorem agr_tr (u : agr P h h1) (w : agr P h1 h2) : agr P h h2 := ⟨w.1.trans u.1, fun b hb => (w.2.1 b hb).trans (u.2.1 b hb), fun b hb => (w.2.2 b hb).trans (u.2.2 b hb)⟩
theorem agr_mono (hp : ∀ b, P b → P' b) (u : agr P h h1) : agr P' h h1 := ⟨u.1, u.2.1, fun b hb => u.2.2 b (fun q => hb (hp b q))⟩
theorem agr_U (u : mxU P h h1) : agr P h h1 := ⟨u.1, fun b _ => by rw [u.2.2.2.1], u.2.2.2.2.2⟩
theorem agr_mdl (u : mdl h hm) : agr P h hm := ⟨u.1, fun b _ => by rw [u.2.2.2.2], fun b _ => by rw [u.2.2.2.1]⟩
theorem agr_ex : agr P h (mx_ex h) := ⟨rfl, fun _ _ => rfl, fun _ _ => rfl⟩
theorem agr_wi {a k : Nat} {v : Int32} (hp : P a) : agr P h (mx_wi h a k v) := agr_U (mxU_wi hp)
theorem agr_wrow {a : Nat} {f : Nat → Int32} (hp : P a) : agr P h (mx_wrow h a f) := agr_U (mxU_wrow hp)
theorem agr_G (u : agr P h h1) (G : mxG h) : mxG h1 := by
  refine ⟨u.1.trans G.1, fun q hq c hc => ?_⟩
  by_cases e : c = 106
  · subst e
    rw [sT_106] at hc
    exact absurd hc (by revert q; decide +kernel)
  · rw [u.2.1 c e]; exact G.2 q hq c hc
theorem agr_S (u : agr P h h1) (S : mxS h vn vd vr vq) : mxS h1 vn vd vr vq := by
  unfold mxS
  rw [u.2.1 100 (by decide), u.2.1 188 (by decide)]
  exact S
theorem W_agr {LW : mxLW} (ok : LWok LW) (u : agr P h h1) (hp : ∀ b, vr ≤ b → b ≤ vr + 4 → ¬ P b) (hr : ∀ k, k = 1 ∨ k = 2 ∨ (369 ≤ k ∧ k < 769) → mx_i h1 382 k = mx_i h 382 k) (W : LW (lw h vr) (mx_i h 382)) : LW (lw h1 vr) (mx_i h1 382) :=
  ok _ _ _ _ (fun k j hk => by
    show mx_i h1 (vr + k) j = mx_i h (vr + k) j
    rw [u.2.2 _ (hp _ (by omega) (by unfold inL at hk; omega))]) hr W
theorem T_agr (u : agr P h h1) (p2 : ¬ P 102) (p6 : ¬ P 386) (e1 : mx_i h1 101 1 = mx_i h 101 1) (e8 : mx_i h1 381 8 = mx_i h 381 8) (T : TpN h) : TpN h1 := by
  obtain ⟨n, a1, a2, a3, a4⟩ := T
  refine ⟨n, a1, e1 ▸ a2, e8 ▸ a3, ?_⟩
  rw [u.2.2 386 p6, u.2.2 102 p2]; exact a4
theorem R_agr (u : agr P h h1) (hp : ∀ b, 189 ≤ b → b < 381 → ¬ P b) (p5 : ¬ P 385) (e2 : mx_i h1 100 12 = mx_i h 100 12) (e3 : mx_i h1 100 13 = mx_i h 100 13) (e6 : mx_i h1 381 6 = mx_i h 381 6) (r1 : mx_i h1 382 1 = mx_i h 382 1) (r2 : mx_i h1 382 2 = mx_i h 382 2) (R : RmN h) : RmN h1 := by
  obtain ⟨f, c, a1, a2, a3, a4, a5, a6⟩ := R
  refine ⟨f, c, a1, a2, e2 ▸ a3, e3 ▸ a4, e6 ▸ a5, fun i hi => ?_⟩
  rw [u.2.2 385 p5, r1, r2]
  obtain ⟨⟨x1, x2, x3, x4⟩, x5⟩ := a6 i hi
  refine ⟨⟨x1, x2, x3, CpN_congr (fun k j hk => ?_) (fun _ _ _ _ => rfl) x4⟩, x5⟩
  have := Nat.mod_lt (f + i) (show 12 > 0 by decide)
  show mx_i h1 (189 + 16 * ((f + i) % 12) + k) j = mx_i h (189 + 16 * ((f + i) % 12) + k) j
  rw [u.2.2 _ (hp _ (by omega) (by unfold inV at hk; omega))]
theorem K_agr {LW : mxLW} (ok : LWok LW) (u : agr P h h1) (hp : ∀ b, 165 ≤ b → b < 188 → ¬ P b) (p3 : ¬ P 383) (e1 : mx_i h1 100 10 = mx_i h 100 10) (e3 : mx_i h1 381 3 = mx_i h 381 3) (K : KpN LW h) : KpN LW h1 := by
  obtain ⟨a1, a2⟩ := K
  refine ⟨by rw [e1, e3]; exact a1, ?_⟩
  rw [e3, u.2.2 383 p3]
  rcases a2 with a2 | ⟨a2, ⟨x1, x2, x3, x4⟩, a4⟩
  · exact .inl a2
  · refine .inr ⟨a2, ⟨x1, x2, x3, CpN_congr (fun k j hk => ?_) (fun _ _ _ _ => rfl) x4⟩, ok _ _ _ _ (fun k j hk => ?_) (fun _ _ => rfl) a4⟩
    · show mx_i h1 (165 + k) j = mx_i h (165 + k) j
      rw [u.2.2 _ (hp _ (by omega) (by unfold inV at hk; omega))]
    · show mx_i h1 (181 + k) j = mx_i h (181 + k) j
      rw [u.2.2 _ (hp _ (by omega) (by unfold inL at hk; omega))]
end
