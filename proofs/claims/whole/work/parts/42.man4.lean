/-! SPECS by hand, 4 -/
def rmC (vn : Nat) (h h1 : mxH) : Prop := mxU (fun b => b = 100 ∨ (189 ≤ b ∧ b < 381)) h h1 ∧ (∀ j, j ≠ 12 → j ≠ 13 → mx_i h1 100 j = mx_i h 100 j) ∧ ∀ f c, f < 12 → c ≤ 12 → mx_i h 100 12 = nI f → mx_i h 100 13 = nI c → ∃ f' c' : Nat, f' < 12 ∧ mx_i h1 100 12 = nI f' ∧ mx_i h1 100 13 = nI c' ∧ (c < 12 → f' = f ∧ c' = c + 1) ∧ (c = 12 → f' = (f + 1) % 12 ∧ c' = 12) ∧ (∀ b, 189 ≤ b → b < 381 → ¬ (189 + 16 * ((f + c) % 12) ≤ b ∧ b < 189 + 16 * ((f + c) % 12) + 16) → mx_i h1 b = mx_i h b) ∧ ∀ k j, inV k j → mx_i h1 (189 + 16 * ((f + c) % 12) + k) j = mx_i h (vn + k) j
section
variable {d : Nat} {h : mxH} {Q : mxO → mxH → Prop} {vn vd vr vq : Nat}
theorem rem12 {n : Nat} (hn : n < 1000) : nI n - nI n / 12 * 12 = nI (n % 12) := pk_rem (d := 12) (by omega) (by decide) (by decide)
theorem sp_182 (G : mxG h) (S : mxS h vn vd vr vq) (hf : cB (mx_i h 100 12) 11) (hc : cB (mx_i h 100 13) 12) (k : ∀ h1, rmC vn h h1 → Q (.inl none) h1) : mx_wp (d + 2) 182 0 (mx_fr 182 [.ref 100]) [] h Q := by
  obtain ⟨f, hf, ef⟩ := hf
  obtain ⟨c, hc, ec⟩ := hc
  have hvn : vn = 119 ∨ vn = 135 := by have := S.2.2.2.2.1; omega
  refine tr_182_0 G S ⟨fun c12 h15 e15 h19 e19 => ?_, fun c12 => ?_⟩
  · have hcc : c = 12 := by rw [ec] at c12; exact (nI_eq (by omega) (by decide)).mp c12
    subst hcc
    have a12 : mx_i h15 100 12 = nI ((f + 1) % 12) := by rw [e15, wi_at rfl rfl, ef, nI_1, rem12 (by omega)]
    have b12 : mx_i h19 100 12 = nI ((f + 1) % 12) := by rw [e19, wi_nj (by decide)]; exact a12
    have b13 : mx_i h19 100 13 = nI 11 := by rw [e19, wi_at rfl rfl, e15, wi_nj (by decide), ec]; decide
    have hm : ((f + 1) % 12 + 11) % 12 = f := by omega
    have hmod := Nat.mod_lt (f + 1) (show 12 > 0 by decide)
    rw [b12, b13, nI_add, rem12 (by omega), hm]
    refine ⟨vp_in_nI (by omega) (by decide), fun vk ek h28 cp h32 e32 => ?_⟩
    rw [nI_clamp (by omega)] at ek
    subst ek
    have o19 : ∀ b, b ≠ 100 → mx_i h19 b = mx_i h b := fun b hb => by rw [e19, wi_ne hb, e15, wi_ne hb]
    have o28 : mx_i h28 100 = mx_i h19 100 := mxU_i cp.1 (by omega)
    refine k h32 ⟨?_, fun j j1 j2 => ?_, fun f0 c0 hf0 hc0 ef0 ec0 => ?_⟩
    · refine mxU_tr (mxU_wi' e15 (.inl rfl)) (mxU_tr (mxU_wi' e19 (.inl rfl)) (mxU_tr (mxU_mono (fun b hb => ?_) cp.1) (mxU_wi' e32 (.inl rfl))))
      omega
    · rw [e32, wi_nj j2, o28, e19, wi_nj j2, e15, wi_nj j1]
    · have h1 : f0 = f := (nI_eq (by omega) (by omega)).mp (ef0.symm.trans ef)
      have h2 : c0 = 12 := (nI_eq (by omega) (by omega)).mp (ec0.symm.trans ec)
      subst h1 h2
      have hw : (f0 + 12) % 12 = f0 := by omega
      rw [hw]
      refine ⟨(f0 + 1) % 12, 12, by omega, ?_, ?_, by omega, fun _ => ⟨rfl, rfl⟩, fun b b1 b2 b3 => ?_, fun q j hq => ?_⟩
      · rw [e32, wi_nj (by decide), o28]; exact b12
      · rw [e32, wi_at rfl rfl, o28, b13]; decide
      · rw [e32, wi_ne (by omega), mxU_i cp.1 (by omega), o19 b (by omega)]
      · rw [e32, wi_ne (by omega), cp.2 q j hq (by omega) (by unfold inV at hq; omega), o19 _ (by omega)]
  · have hcc : c < 12 := by
      rcases Nat.lt_or_ge c 12 with q | q
      · exact q
      · exact absurd (by rw [ec, show c = 12 by omega]; rfl) c12
    rw [ef, ec, nI_add, rem12 (by omega)]
    have hmod := Nat.mod_lt (f + c) (show 12 > 0 by decide)
    refine ⟨vp_in_nI (by omega) (by decide), fun vk ek h28 cp h32 e32 => ?_⟩
    rw [nI_clamp (by omega)] at ek
    subst ek
    have o28 : mx_i h28 100 = mx_i h 100 := mxU_i cp.1 (by omega)
    refine k h32 ⟨?_, fun j j1 j2 => ?_, fun f0 c0 hf0 hc0 ef0 ec0 => ?_⟩
    · refine mxU_tr (mxU_mono (fun b hb => ?_) cp.1) (mxU_wi' e32 (.inl rfl))
      omega
    · rw [e32, wi_nj j2, o28]
    · have h1 : f0 = f := (nI_eq (by omega) (by omega)).mp (ef0.symm.trans ef)
      have h2 : c0 = c := (nI_eq (by omega) (by omega)).mp (ec0.symm.trans ec)
      subst h1 h2
      refine ⟨f0, c0 + 1, by omega, ?_, ?_, fun _ => ⟨rfl, rfl⟩, by omega, fun b b1 b2 b3 => ?_, fun q j hq => ?_⟩
      · rw [e32, wi_nj (by decide), o28]; exact ef
      · rw [e32, wi_at rfl rfl, o28, ec, nI_1]
      · rw [e32, wi_ne (by omega), mxU_i cp.1 (by omega)]
      · rw [e32, wi_ne (by omega), cp.2 q j hq (by omega) (by unfold inV at hq; omega)]
theorem sp_183 (G : mxG h) (S : mxS h vn vd vr vq) (k : Q (.inl none) (mx_wi h 100 13 0)) : mx_wp d 183 0 (mx_fr 183 [.ref 100]) [] h Q := tr_183_0 G S (fun h1 e1 => by subst e1; exact k)
end
