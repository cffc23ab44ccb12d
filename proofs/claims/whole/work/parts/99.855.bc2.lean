/-! BITS OF A SMALL NUMBER -/
theorem bc2_eq : ∀ x : Fin 2048, V_306 h00 (nI x.val) = V_195 (fun _ => 0) (nI x.val) := by decide +kernel
theorem bc2 {h : mxH} {r : Nat → Int32} {x : Nat} (hx : x < 2048) : V_306 h (nI x) = V_195 r (nI x) := bc2_eq ⟨x, hx⟩
