/-! SPECS by hand, 5 -/
def F_118 (h : mxH) (a : Nat) (z : Nat) (s : Int32 × Int32) : Int32 × Int32 := ((if (V_119 h a (nI z)) = (-1) then s.1 else (if s.1 = (-1) then nI z else (if (V_119 h a (nI z)) < s.2 then nI z else s.1))), (if (V_119 h a (nI z)) = (-1) then s.2 else (if s.1 = (-1) then (V_119 h a (nI z)) else (if (V_119 h a (nI z)) < s.2 then (V_119 h a (nI z)) else s.2))))
def V_118 (h : mxH) (a : Nat) : Int32 := if 0 < mx_i h (a + 1) 0 then (fo (F_118 h a) 12 ((-1), 0)).1 else -1
theorem sp_118 {d : Nat} {h : mxH} {Q : mxO → mxH → Prop} {a : Nat} (G : mxG h) (hVa : (mxT a).1 = 9) (hcp : cB (mx_i h (a + 1) 0) 6) (hcs : cB (mx_i h (a + 7) 0) 10) (hpl : plOk h a) (k : Q (.inl (some (.int (V_118 h a)))) h) : mx_wp (d + 3) 118 0 (mx_fr 118 [.ref a]) [] h Q := by
  unfold V_118 at k
  refine tr_118_0 G hVa ?_
  by_cases c : 0 < mx_i h (a + 1) 0
  · rw [if_pos c] at k
    refine lp_up (P := fun s => H_118_6 (d + 3) h a (fo (F_118 h a) s ((-1), 0)).1 (fo (F_118 h a) s ((-1), 0)).2 (nI s) Q) 12 ?_ (fun s hs ih => ?_)
    · exact tr_118_6 G hVa ⟨fun q => absurd q (by decide), fun _ => k⟩
    · refine tr_118_6 G hVa ⟨fun _ => ⟨fun _ => ⟨hcp, hcs, hpl, nI_isI (n := 12) hs (by decide), fun v7 e7 v8 e8 => ?_⟩, fun q => absurd c q⟩, fun q => absurd (nI_lt hs (by decide)) q⟩
      subst e7 e8
      rw [nI_succ] at ih
      exact ih
  · rw [if_neg c] at k
    exact tr_118_6 G hVa ⟨fun _ => ⟨fun q => absurd q c, fun _ => k⟩, fun q => absurd (by decide) q⟩
