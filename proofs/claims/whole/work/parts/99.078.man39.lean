/-! SHARE: isLikeAnEarlierOne -/
def V_11 (h : mxH) (i1 : Int32) : Int32 := if (List.range i1.toNatClampNeg).any (fun e => decide (mx_i h 111 e = mx_i h 111 i1.toNatClampNeg)) = true then 1 else 0
theorem sp_11 {d : Nat} {h : mxH} {Q : mxO → mxH → Prop} {i1 : Int32} (G : mxG h) (x0 : cB i1 5) (k : Q (.inl (some (.int (V_11 h i1)))) h) : mx_wp d 11 0 (mx_fr 11 [.ref 109, .int i1]) [] h Q := by
  obtain ⟨n, hn, rfl⟩ := x0
  unfold V_11 at k
  rw [nI_clamp (by omega)] at k
  refine tr_11_0 G ?_
  have L : ∀ j i, i + j = n → (∀ e, e < i → ¬ mx_i h 111 e = mx_i h 111 n) → H_11_2 d h (nI n) (nI i) Q := by
    intro j
    induction j with
    | zero =>
      intro i hi w
      refine tr_11_2 G ⟨fun c => ?_, fun _ => ?_⟩
      · rw [show i = n by omega] at c
        exact absurd c Int32.lt_irrefl
      · rw [if_neg] at k
        · exact k
        · intro z
          rw [List.any_eq_true] at z
          obtain ⟨e, he, q⟩ := z
          exact w e (by have := List.mem_range.mp he; omega) (of_decide_eq_true q)
    | succ j ih =>
      intro i hi w
      refine tr_11_2 G ⟨fun _ => ⟨vp_in_nI (by omega) (by decide), vp_in_nI (by omega) (by decide), fun c => ?_, fun c => ?_⟩, fun c => absurd (nI_lt (by omega) (by omega)) c⟩
      · rw [nI_clamp (by omega), nI_clamp (by omega)] at c
        rw [if_pos] at k
        · exact k
        · rw [List.any_eq_true]
          exact ⟨i, List.mem_range.mpr (by omega), decide_eq_true c⟩
      · rw [nI_clamp (by omega), nI_clamp (by omega)] at c
        rw [nI_1]
        refine ih (i + 1) (by omega) (fun e he => ?_)
        by_cases q : e = i
        · rw [q]; exact c
        · exact w e (by omega)
  exact L n 0 (by omega) (fun e he => by omega)
