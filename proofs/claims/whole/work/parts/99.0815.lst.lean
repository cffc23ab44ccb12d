/-! SHARE: the least of the reference is the least of the search -/
theorem tl_en {S : Nat → Bool} {N z : Nat} : tlB (enB S N) (cN S N) 0 z = true ↔ z < N ∧ S z = true := by
  rw [tlB_iff]
  constructor
  · rintro ⟨k, _, hk, rfl⟩
    have := enB_ok (p := S) (N := N) (k := k) (by omega)
    exact ⟨this.1, this.2.1⟩
  · rintro ⟨a, b⟩
    have := enB_at a b
    exact ⟨cN S z, Nat.zero_le _, by omega, this.2.symm⟩
theorem FM_en {w : Nat → Nat} {S T : Nat → Bool} {N c : Nat} {R : Nat → Nat} (hN : N ≤ 10) (e : ∀ z, z < 10 → (T z = true ↔ z < N ∧ S z = true)) : FM w c T R ↔ Fz c (fun k => w (enB S N k)) (cN S N) 0 R := by
  have q : ∀ z, z < 10 → T z = tlB (enB S N) (cN S N) 0 z := fun z hz => by
    rw [Bool.eq_iff_iff, e z hz, tl_en]
  rw [← FM_Fz (w := w) (c := c) (m := cN S N) (zz := enB S N) (fun k hk => by have := (enB_ok hk).1; omega) (fun i j hij hj => enB_inj hij hj) (R := R) (by omega)]
  exact ⟨FM_congr q (fun _ _ => rfl), FM_congr (fun z hz => (q z hz).symm) (fun _ _ => rfl)⟩
theorem lst_eq {w : Nat → Nat} {S T : Nat → Bool} {N c u : Nat} (hc : 0 < c) (hN : N ≤ 10) (e : ∀ z, z < 10 → (T z = true ↔ z < N ∧ S z = true)) (b : sO c (fun k => w (enB S N k)) (cN S N) 0 (fun _ => 0) ≤ 1000) (h : ∀ B, B < 2000000000 → (u ≤ B ↔ FM w c T (fun _ => B))) : u = sO c (fun k => w (enB S N k)) (cN S N) 0 (fun _ => 0) := by
  have key : ∀ B, B < 2000000000 → (u ≤ B ↔ sO c (fun k => w (enB S N k)) (cN S N) 0 (fun _ => 0) ≤ B) := by
    intro B hB
    rw [h B hB, FM_en hN e, sO_iff hc]
    exact ⟨fun z => ⟨fun _ _ => Nat.zero_le _, z⟩, fun z => z.2⟩
  have a := (key _ (by omega)).mpr (Nat.le_refl _)
  have d := (key u (by omega)).mp (Nat.le_refl _)
  omega
