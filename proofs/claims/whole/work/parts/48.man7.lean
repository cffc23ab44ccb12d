/-! SPECS by hand, 7: the fewest goes of a set -/
theorem and_le6 : ∀ a, a < 64 → ∀ z, z < 64 → vp_in (nI a &&& (nI z ^^^ (-1))) 64 := by
  intro a ha z hz
  have k : ∀ a, a < 64 → ∀ z, z < 64 → (0 ≤ (nI a &&& (nI z ^^^ (-1))) ∧ (nI a &&& (nI z ^^^ (-1))) < 64) := by decide +kernel
  have q := k a ha z hz
  obtain ⟨j, hj, e⟩ := isI_nI (n := 64) (by decide) (show isI (nI a &&& (nI z ^^^ (-1))) (nI 64) from ⟨fun c => absurd q.1 (Int32.not_le.mpr c), q.2⟩)
  rw [e]
  exact vp_in_nI hj (by decide)
def V_15 (h : mxH) (i1 i2 : Int32) : Int32 := fz (F_15_4 h i1 i2) 1 (i1.toNatClampNeg + 1) (-1)
theorem sp_15 {d : Nat} {h : mxH} {Q : mxO → mxH → Prop} {i1 i2 : Int32} (G : mxG h) (hc : cB i1 63) (k : Q (.inl (some (.int (V_15 h i1 i2)))) h) : mx_wp d 15 0 (mx_fr 15 [.ref 109, .int i1, .int i2]) [] h Q := by
  obtain ⟨m, hm, rfl⟩ := hc
  unfold V_15 at k
  rw [nI_clamp (by omega)] at k
  refine tr_15_0 G (lp_15_4 (n := m + 1) 1 G rfl (by omega) (by omega) (by omega) (fun z _ hz => ⟨⟨fun _ => ⟨vp_in_nI (by omega) (by decide), fun _ => trivial, fun _ => ⟨and_le6 m (by omega) z (by omega), trivial⟩⟩, fun _ => trivial⟩, trivial⟩) k)
