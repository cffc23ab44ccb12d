/-! SPECS of the methods that refuse -/
section
variable {d : Nat} {h : mxH} {Q : mxO → mxH → Prop} {i1 : Int32} {vn vd vr vq : Nat}
theorem sp_184 (G : mxG h) (S : mxS h vn vd vr vq) (k1 : isI i1 (mx_i h (vn + 1) 0) → Q (.inl none) h) (k2 : ¬ isI i1 (mx_i h (vn + 1) 0) → Q (.inr 2) (mx_ex h)) : mx_wp (d + 1) 184 0 (mx_fr 184 [.ref 100, .int i1]) [] h Q := by
  refine tr_184_0 G S ⟨fun c => k2 (fun e => ?_), fun c => k1 ?_⟩
  · unfold V_44 at c; rw [if_neg e.1, if_pos e.2] at c; exact absurd c (by decide)
  · unfold V_44 at c
    by_cases e : i1 < 0
    · rw [if_pos e] at c; exact absurd rfl c
    · rw [if_neg e] at c
      by_cases e2 : i1 < mx_i h (vn + 1) 0
      · exact ⟨e, e2⟩
      · rw [if_neg e2] at c; exact absurd rfl c
theorem sp_185 (G : mxG h) (S : mxS h vn vd vr vq) (k1 : isI i1 (mx_i h (vn + 7) 0) → Q (.inl none) h) (k2 : ¬ isI i1 (mx_i h (vn + 7) 0) → Q (.inr 2) (mx_ex h)) : mx_wp d 185 0 (mx_fr 185 [.ref 100, .int i1]) [] h Q :=
  tr_185_0 G S ⟨fun c => k2 (fun e => e.1 c), fun c => ⟨fun c2 => k1 ⟨c, c2⟩, fun c2 => k2 (fun e => c2 e.2)⟩⟩
theorem sp_186 (G : mxG h) (S : mxS h vn vd vr vq) (k1 : isI i1 12 → Q (.inl none) h) (k2 : ¬ isI i1 12 → Q (.inr 2) (mx_ex h)) : mx_wp d 186 0 (mx_fr 186 [.ref 100, .int i1]) [] h Q :=
  tr_186_0 G S ⟨fun c => k2 (fun e => e.1 c), fun c => ⟨fun c2 => k1 ⟨c, c2⟩, fun c2 => k2 (fun e => c2 e.2)⟩⟩
theorem sp_187 (G : mxG h) (S : mxS h vn vd vr vq) (k1 : isI i1 201 → Q (.inl none) h) (k2 : ¬ isI i1 201 → Q (.inr 0) (mx_ex h)) : mx_wp d 187 0 (mx_fr 187 [.ref 100, .int i1]) [] h Q :=
  tr_187_0 G S ⟨fun c => k2 (fun e => e.1 c), fun c => ⟨fun c2 => k2 (fun e => by have := e.2; grind), fun c2 => k1 ⟨c, by grind⟩⟩⟩
theorem sp_188 (G : mxG h) (S : mxS h vn vd vr vq) (k1 : isI i1 101 → Q (.inl none) h) (k2 : ¬ isI i1 101 → Q (.inr 0) (mx_ex h)) : mx_wp d 188 0 (mx_fr 188 [.ref 100, .int i1]) [] h Q :=
  tr_188_0 G S ⟨fun c => k2 (fun e => e.1 c), fun c => ⟨fun c2 => k2 (fun e => by have := e.2; grind), fun c2 => k1 ⟨c, by grind⟩⟩⟩
end
