/-! SHARE: the spec of deal -/
def p10 (i1 i2 : Int32) (h h1 : mxH) : Prop := mxU (fun b => b = 109 ∨ b = 111 ∨ b = 113 ∨ b = 114) h h1 ∧ (∀ j, j ≠ 7 → mx_i h1 109 j = mx_i h 109 j) ∧ ∀ c m w L s g gv st bd, VDq (m + 1 - s) i1 i2 h (c, m, w, L, s, g, gv, st, bd) → VDv h1 c m w L s gv (dlN c w bd (m - s) s L g gv st) bd
theorem sp_10 {d : Nat} {h : mxH} {Q : mxO → mxH → Prop} {i1 i2 : Int32} (G : mxG h) (ok : ∃ (q : Dv), VDq (q.2.1 + 1 - q.2.2.2.2.1) i1 i2 h q) (k : ∀ h1, p10 i1 i2 h h1 → Q (.inl none) h1) : mx_wp (d + 18) 10 0 (mx_fr 10 [.ref 109, .int i1, .int i2]) [] h Q := by
  refine all_mv (P := fun q : Dv => VDq (q.2.1 + 1 - q.2.2.2.2.1) i1 i2 h q) (F := fun h1 => mxU (fun b => b = 109 ∨ b = 111 ∨ b = 113 ∨ b = 114) h h1 ∧ ∀ j, j ≠ 7 → mx_i h1 109 j = mx_i h 109 j) (R := fun q h1 => VDv h1 q.1 q.2.1 q.2.2.1 q.2.2.2.1 q.2.2.2.2.1 q.2.2.2.2.2.2.1 (dlN q.1 q.2.2.1 q.2.2.2.2.2.2.2.2 (q.2.1 - q.2.2.2.2.1) q.2.2.2.2.1 q.2.2.2.1 q.2.2.2.2.2.1 q.2.2.2.2.2.2.1 q.2.2.2.2.2.2.2.1) q.2.2.2.2.2.2.2.2) ok (fun q o => ?_) (fun h1 f r => k h1 ⟨f.1, f.2, fun c m w L s g gv st bd a1 => by
    have z := r (c, m, w, L, s, g, gv, st, bd) a1
    dsimp only at z
    exact z⟩)
  obtain ⟨c, m, w, L, s, g, gv, st, bd⟩ := q
  have o : VDq (m + 1 - s) i1 i2 h (c, m, w, L, s, g, gv, st, bd) := o
  have m10 : m ≤ 10 := o.1.1.2.2.1
  dsimp only
  have := cl10 (m + 1 - s) (d + 11 - (m + 1 - s)) (h := h) (i1 := i1) (i2 := i2) (Q := fun o h1 => o = .inl none ∧ (mxU (fun b => b = 109 ∨ b = 111 ∨ b = 113 ∨ b = 114) h h1 ∧ ∀ j, j ≠ 7 → mx_i h1 109 j = mx_i h 109 j) ∧ VDv h1 c m w L s gv (dlN c w bd (m - s) s L g gv st) bd) G ⟨_, o⟩ (fun h1 u => ⟨rfl, ⟨u.1, u.2.1⟩, u.2.2 _ _ _ _ _ _ _ _ _ o⟩)
  rw [show d + 11 - (m + 1 - s) + (m + 1 - s) + 7 = d + 18 by omega] at this
  exact this
