/-! SHARE: one stone of the reference's way is one of the search's -/
theorem sO_key {c n s i x B : Nat} {w L : Nat → Nat} (hc : 0 < c) (hi : i < c) (hL : ∀ k, k < c → L k ≤ B) : sO c w n s (upA L i x) ≤ B ↔ (x ≤ B - L i ∧ Fz c w n s (suB (fun k => B - L k) i x)) := by
  have li := hL i hi
  rw [sO_iff hc]
  constructor
  · rintro ⟨a, b⟩
    have ai := a i hi
    unfold upA at ai
    rw [if_pos rfl] at ai
    refine ⟨by omega, Fz_congr (fun k hk => ?_) b⟩
    unfold upA suB
    dsimp only
    by_cases q : k = i
    · rw [if_pos q, if_pos q, q]; omega
    · rw [if_neg q, if_neg q]
  · rintro ⟨a, b⟩
    refine ⟨fun k hk => ?_, Fz_congr (fun k hk => ?_) b⟩
    · unfold upA
      by_cases q : k = i
      · rw [if_pos q, q]; omega
      · rw [if_neg q]; exact hL k hk
    · unfold upA suB
      dsimp only
      by_cases q : k = i
      · rw [if_pos q, if_pos q, q]; omega
      · rw [if_neg q, if_neg q]
theorem stp_eq {c n s B : Nat} {w L : Nat → Nat} (hc : 0 < c) (hB : sO c w (n + 1) s L = B) : amN (fun i => sO c w n (s + 1) (upA L i (w s))) c < c ∧ sO c w n (s + 1) (upA L (amN (fun i => sO c w n (s + 1) (upA L i (w s))) c) (w s)) = B ∧ (w s ≤ B - L (amN (fun i => sO c w n (s + 1) (upA L i (w s))) c) ∧ Fz c w n (s + 1) (suB (fun k => B - L k) (amN (fun i => sO c w n (s + 1) (upA L i (w s))) c) (w s))) ∧ ∀ i, i < amN (fun i => sO c w n (s + 1) (upA L i (w s))) c → ¬ (w s ≤ B - L i ∧ Fz c w n (s + 1) (suB (fun k => B - L k) i (w s))) := by
  have hl := amN_lt (f := fun i => sO c w n (s + 1) (upA L i (w s))) hc
  have hL := ((sO_iff (w := w) hc (n := n + 1) (s := s) (L := L) (B := B)).mp (by omega)).1
  have e : sO c w n (s + 1) (upA L (amN (fun i => sO c w n (s + 1) (upA L i (w s))) c) (w s)) = B := hB
  refine ⟨hl, e, (sO_key hc hl hL).mp (by omega), fun i hi z => ?_⟩
  have f := amN_fst (f := fun i => sO c w n (s + 1) (upA L i (w s))) hi
  have g := (sO_key (w := w) (n := n) (s := s + 1) hc (show i < c by omega) hL).mpr z
  omega
