/-! SHARE: gives -/
def okGs (h : mxH) (i1 i2 i3 i4 : Int32) (ns all c : Nat) (R : Nat → Nat) (t wg : Nat) : Prop := okGv h i3 i4 ns all c R ∧ i1 = nI t ∧ t < c ∧ i2 = nI wg ∧ wg ≤ 1000
def giv (w : Nat → Nat) (all c : Nat) (R : Nat → Nat) (t wg : Nat) (x : Int32) (h1 : mxH) : Prop := (x = 1 ∧ (wg ≤ R t ∧ FM w c all.testBit (suB R t wg)) ∧ ∀ i, i < c → mx_i h1 390 i = nI (suB R t wg i)) ∨ (x = 0 ∧ ¬ (wg ≤ R t ∧ FM w c all.testBit (suB R t wg)) ∧ ∀ i, i < c → mx_i h1 390 i = nI (R i))
def p271 (i1 i2 i3 i4 : Int32) (h : mxH) (x : Int32) (h1 : mxH) : Prop := mxU (fun b => b = 388 ∨ b = 390) h h1 ∧ ∀ ns all c R t wg, okGs h i1 i2 i3 i4 ns all c R t wg → giv (wR (mx_i h 382) ns) all c R t wg x h1
theorem sp_271 {d : Nat} {h : mxH} {Q : mxO → mxH → Prop} {i1 i2 i3 i4 : Int32} (G : mxG h) (ok : ∃ (q : Nat × Nat × Nat × (Nat → Nat) × Nat × Nat), okGs h i1 i2 i3 i4 q.1 q.2.1 q.2.2.1 q.2.2.2.1 q.2.2.2.2.1 q.2.2.2.2.2) (k : ∀ x h1, p271 i1 i2 i3 i4 h x h1 → Q (.inl (some (.int x))) h1) : mx_wp (d + 3) 271 0 (mx_fr 271 [.ref 381, .int i1, .int i2, .int i3, .int i4]) [] h Q := by
  refine all_mut (F := mxU (fun b => b = 388 ∨ b = 390) h) (R := fun q x h1 => giv (wR (mx_i h 382) q.1) q.2.1 q.2.2.1 q.2.2.2.1 q.2.2.2.2.1 q.2.2.2.2.2 x h1) ok (fun q o => ?_) (fun x h1 f r => k x h1 ⟨f, fun ns all c R t wg a1 => by
    have z := r (ns, all, c, R, t, wg) a1
    dsimp only at z
    exact z⟩)
  obtain ⟨ns, all, c, R, t, wg⟩ := q
  have o : okGs h i1 i2 i3 i4 ns all c R t wg := o
  obtain ⟨⟨oL, eR, bR⟩, rfl, ht, rfl, hw⟩ := o
  have hc6 : c ≤ 6 := oL.2.2.2.2
  dsimp only
  have b1 := bR t
  refine tr_271_0 G ⟨vp_in_nI (by omega) (by decide), fun q => ?_, fun q h3 e3 => ?_⟩
  · rw [nI_clamp (by omega), eR t ht, nI_lt_iff (by omega) (by omega)] at q
    exact ⟨0, rfl, mxU_rfl, .inr ⟨rfl, fun z => by omega, eR⟩⟩
  · rw [nI_clamp (by omega), eR t ht, nI_lt_iff (by omega) (by omega)] at q
    rw [nI_clamp (by omega), eR t ht, pk_sub (by omega)] at e3
    have U3 : mxU (fun b => b = 388 ∨ b = 390) h h3 := mxU_wi' e3 (.inr rfl)
    have r3 : ∀ i, i < c → mx_i h3 390 i = nI (suB R t wg i) := by
      intro i hi
      rw [e3, wi_row]
      unfold suB
      by_cases z : i = t
      · rw [if_pos z, if_pos z, z]
      · rw [if_neg z, if_neg z]; exact eR i hi
    have e382 : mx_i h3 382 = mx_i h 382 := mxU_i U3 (by decide)
    have o3 : okGv h3 i3 i4 ns all c (suB R t wg) := ⟨by unfold okLb; rw [e382]; exact oL, r3, fun i => by
      have := bR i
      unfold suB
      split <;> omega⟩
    refine ⟨⟨(ns, all, c, suB R t wg), o3⟩, fun x7 h8 u8 => ?_⟩
    have w := u8.2 ns all c (suB R t wg) o3
    have U8 : mxU (fun b => b = 388 ∨ b = 390) h h8 := mxU_tr U3 (mxU_mono (fun b hb => .inl hb) u8.1)
    have e390 : mx_i h8 390 = mx_i h3 390 := mxU_i u8.1 (by decide)
    rw [e382] at w
    rcases w with ⟨rfl, f⟩ | ⟨rfl, f⟩
    · exact ⟨fun z => absurd z (by decide), fun _ => ⟨1, rfl, U8, .inl ⟨rfl, ⟨by omega, f⟩, fun i hi => by rw [e390]; exact r3 i hi⟩⟩⟩
    · refine ⟨fun _ h12 e12 => ⟨0, rfl, mxU_tr U8 (mxU_wi' e12 (.inr rfl)), .inr ⟨rfl, fun z => f z.2, fun i hi => ?_⟩⟩, fun z => absurd rfl z⟩
      rw [nI_clamp (by omega), e390, r3 t ht] at e12
      rw [e12, wi_row, e390]
      by_cases z : i = t
      · rw [if_pos z, z]
        unfold suB
        rw [if_pos rfl, nI_add, show R t - wg + wg = R t by omega]
      · rw [if_neg z, r3 i hi]
        unfold suB
        rw [if_neg z]
