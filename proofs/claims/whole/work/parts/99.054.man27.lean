/-! SPECS by hand, 27: closing a text -/
theorem sp_137 {d : Nat} {h : mxH} {Q : mxO → mxH → Prop} {i1 : Int32} {vn vd vr vq : Nat} (G : mxG h) (S : mxS h vn vd vr vq) (x0 : i1 = 0 → vp_in (mx_i h 101 3) 401) (k : Q (.inl none) (mx_wi (mx_wi h 100 14 (if i1 = 0 then V_94 h else -1)) 101 1 0)) : mx_wp (d + 1) 137 0 (mx_fr 137 [.ref 100, .int i1]) [] h Q := by
  refine tr_137_0 G S ⟨⟨fun c => ⟨x0 c, trivial⟩, fun _ => trivial⟩, fun v1 e1 h2 e2 h6 e6 => ?_⟩
  subst e1 e2 e6
  exact k
