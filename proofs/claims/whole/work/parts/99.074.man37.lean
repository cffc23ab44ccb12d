/-! SHARE: specs of leastBy, canGive, kth -/
def okLb (h : mxH) (i1 i2 : Int32) (ns all c : Nat) : Prop := (∃ v np nl, CpN v (mx_i h 382) np ns nl) ∧ i1 = nI all ∧ all < 1024 ∧ i2 = nI c ∧ c ≤ 6
def okGv (h : mxH) (i1 i2 : Int32) (ns all c : Nat) (R : Nat → Nat) : Prop := okLb h i1 i2 ns all c ∧ (∀ i, i < c → mx_i h 390 i = nI (R i)) ∧ ∀ i, R i ≤ 1000
def p267 (i1 i2 : Int32) (h : mxH) (x : Int32) (h1 : mxH) : Prop := mxU (fun b => b = 388 ∨ b = 389) h h1 ∧ ∀ ns all c, okLb h i1 i2 ns all c → ∃ u : Nat, u ≤ 2000000000 ∧ x = nI u ∧ ∀ B, B < 2000000000 → (u ≤ B ↔ FM (wR (mx_i h 382) ns) c all.testBit (fun _ => B))
def p268 (i1 i2 : Int32) (h : mxH) (x : Int32) (h1 : mxH) : Prop := mxU (fun b => b = 388) h h1 ∧ ∀ ns all c R, okGv h i1 i2 ns all c R → (x = 1 ∧ FM (wR (mx_i h 382) ns) c all.testBit R) ∨ (x = 0 ∧ ¬ FM (wR (mx_i h 382) ns) c all.testBit R)
def kB (i0 i1 : Int32) : Nat → Nat → Int32 → Int32
  | 0, _, _ => -1
  | f + 1, i, n => if bt i0 i = true then (if n = i1 then nI i else kB i0 i1 f (i + 1) (n + 1)) else kB i0 i1 f (i + 1) n
def V_269 (h : mxH) (i0 i1 : Int32) : Int32 := kB i0 i1 31 0 0
section
variable {d : Nat} {h : mxH} {Q : mxO → mxH → Prop} {i0 i1 i2 : Int32}
theorem sp_267 (G : mxG h) (ok : ∃ (q : Nat × Nat × Nat), okLb h i1 i2 q.1 q.2.1 q.2.2) (k : ∀ x h1, p267 i1 i2 h x h1 → Q (.inl (some (.int x))) h1) : mx_wp (d + 2) 267 0 (mx_fr 267 [.ref 381, .int i1, .int i2]) [] h Q := by
  refine all_mut (F := mxU (fun b => b = 388 ∨ b = 389) h) (R := fun q x h1 => ∃ u : Nat, u ≤ 2000000000 ∧ x = nI u ∧ ∀ B, B < 2000000000 → (u ≤ B ↔ FM (wR (mx_i h 382) q.1) q.2.2 q.2.1.testBit (fun _ => B))) ok (fun q o => ?_) (fun x h1 f r => k x h1 ⟨f, fun ns all c a1 => by
    have z := r (ns, all, c) a1
    dsimp only at z
    exact z⟩)
  obtain ⟨ns, all, c⟩ := q
  have o : okLb h i1 i2 ns all c := o
  obtain ⟨⟨v, np, nl, C⟩, rfl, ha, rfl, hc⟩ := o
  dsimp only
  exact H267 C rfl ha hc G (fun x h1 U w => ⟨x, rfl, U, w⟩)
theorem sp_268 (G : mxG h) (ok : ∃ (q : Nat × Nat × Nat × (Nat → Nat)), okGv h i1 i2 q.1 q.2.1 q.2.2.1 q.2.2.2) (k : ∀ x h1, p268 i1 i2 h x h1 → Q (.inl (some (.int x))) h1) : mx_wp (d + 2) 268 0 (mx_fr 268 [.ref 381, .int i1, .int i2]) [] h Q := by
  refine all_mut (F := mxU (fun b => b = 388) h) (R := fun q x h1 => (x = 1 ∧ FM (wR (mx_i h 382) q.1) q.2.2.1 q.2.1.testBit q.2.2.2) ∨ (x = 0 ∧ ¬ FM (wR (mx_i h 382) q.1) q.2.2.1 q.2.1.testBit q.2.2.2)) ok (fun q o => ?_) (fun x h1 f r => k x h1 ⟨f, fun ns all c R a1 => by
    have z := r (ns, all, c, R) a1
    dsimp only at z
    exact z⟩)
  obtain ⟨ns, all, c, R⟩ := q
  have o : okGv h i1 i2 ns all c R := o
  obtain ⟨⟨⟨v, np, nl, C⟩, rfl, ha, rfl, hc⟩, eR, bR⟩ := o
  dsimp only
  exact H268 C rfl eR bR ha hc G (fun x h1 U w => ⟨x, rfl, U, w⟩)
theorem sp_269 (G : mxG h) (k : Q (.inl (some (.int (V_269 h i0 i1)))) h) : mx_wp (d + 1) 269 0 (mx_fr 269 [.int i0, .int i1]) [] h Q := by
  refine tr_269_0 G ?_
  have L : ∀ f i n, i + f = 31 → Q (.inl (some (.int (kB i0 i1 f i n)))) h → H_269_4 (d + 1) h i0 i1 n (nI i) Q := by
    intro f
    induction f with
    | zero =>
      intro i n hi q
      have hi' : i = 31 := by omega
      subst hi'
      exact tr_269_4 G ⟨fun c => absurd c (by decide), fun _ => q⟩
    | succ f ih =>
      intro i n hi q
      have q : Q (.inl (some (.int (if bt i0 i = true then (if n = i1 then nI i else kB i0 i1 f (i + 1) (n + 1)) else kB i0 i1 f (i + 1) n)))) h := q
      refine tr_269_4 G ⟨fun _ => ?_, fun c => absurd (nI_lt (b := 31) (by omega) (by omega)) c⟩
      rw [v194 (by omega)]
      by_cases c : bt i0 i = true
      · rw [if_pos c] at q ⊢
        refine ⟨fun z => absurd z (by decide), fun _ => ⟨fun e => ?_, fun e => ?_⟩⟩
        · rw [if_pos e] at q; exact q
        · rw [if_neg e] at q; rw [nI_1]; exact ih (i + 1) (n + 1) (by omega) q
      · rw [if_neg c] at q ⊢
        refine ⟨fun _ => ?_, fun z => absurd rfl z⟩
        rw [nI_1]; exact ih (i + 1) n (by omega) q
  exact L 31 0 0 (by omega) k
end
