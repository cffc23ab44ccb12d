/-! SPECS by hand, 17: a line of the valley where none is read -/
theorem sf_221 {d : Nat} {h : mxH} {Q : mxO → mxH → Prop} (G : mxG h) (f : False) (k : ∀ h1, mxK h h1 → Q (.inl none) h1) : mx_wp (d + 8) 221 0 (mx_fr 221 [.ref 381]) [] h Q := f.elim
