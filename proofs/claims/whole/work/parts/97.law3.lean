/-! THE LAW'S LOOP over all ops -/
def Ops (LW : mxLW) : Prop := (∀ x0 x1 x2 x3 x4 : Int32, Op LW 132 207 [.int x0, .int x1, .int x2, .int x3, .int x4] (fun _ => 0)) ∧ (∀ x0 : Int32, Op LW 133 208 [.int x0] (fun _ => 0)) ∧ (Op LW 134 227 [] (fun k => if k = 0 then 1 else if k = 1 then 2 else 0)) ∧ (OpF LW 135 235 [] (fun k => if k = 0 then 1 else 0)) ∧ (Op LW 136 236 [] (fun _ => 0)) ∧ (∀ x0 x1 : Int32, Op LW 138 244 [.int x0, .int x1] (fun k => if k = 2 then 1 else if k = 3 then 2 else 0)) ∧ (∀ x0 x1 : Int32, Op LW 139 245 [.int x0, .int x1] (fun k => if k = 2 then 1 else if k = 3 then 2 else 0)) ∧ (∀ x0 x1 : Int32, Op LW 140 246 [.int x0, .int x1] (fun k => if k = 2 then 1 else if k = 3 then 2 else 0)) ∧ (∀ x0 x1 : Int32, Op LW 141 249 [.int x0, .int x1] (fun k => if k = 2 then 1 else if k = 3 then 2 else 0)) ∧ (∀ x0 x1 x2 : Int32, Op LW 143 253 [.int x0, .int x1, .int x2] (fun k => if k = 2 then 1 else if k = 0 then 2 else if k = 4 then 3 else 0)) ∧ (∀ x0 : Int32, Op LW 144 254 [.int x0] (fun k => if k = 2 then 1 else if k = 4 then 2 else 0)) ∧ (∀ x0 : Int32, Op LW 145 255 [.int x0] (fun k => if k = 2 then 1 else if k = 4 then 2 else 0)) ∧ (∀ x0 x1 : Int32, Op LW 146 256 [.int x0, .int x1] (fun k => if k = 2 then 1 else if k = 0 then 2 else if k = 4 then 3 else 0)) ∧ (∀ x0 : Int32, Op LW 147 257 [.int x0] (fun k => if k = 2 then 1 else if k = 4 then 2 else 0)) ∧ (∀ x0 x1 : Int32, Op LW 148 258 [.int x0, .int x1] (fun k => if k = 2 then 1 else if k = 4 then 2 else 0)) ∧ (∀ x0 x1 : Int32, Op LW 149 259 [.int x0, .int x1] (fun k => if k = 2 then 1 else 0)) ∧ (∀ x0 : Int32, Op LW 150 260 [.int x0] (fun k => if k = 2 then 1 else 0)) ∧ (∀ x0 : Int32, Op LW 151 261 [.int x0] (fun k => if k = 0 then 1 else 0)) ∧ (∀ x0 x1 : Int32, Op LW 153 263 [.int x0, .int x1] (fun k => if k = 2 then 1 else 0)) ∧ (∀ x0 : Int32, Op LW 154 264 [.int x0] (fun k => if k = 2 then 1 else 0)) ∧ (∀ x0 : Int32, Op LW 155 265 [.int x0] (fun k => if k = 2 then 1 else 0)) ∧ (∀ x0 : Int32, Op LW 156 266 [.int x0] (fun k => if k = 2 then 1 else 0)) ∧ (∀ x0 x1 : Int32, Op LW 157 270 [.int x0, .int x1] (fun k => if k = 2 then 1 else 0)) ∧ (Op LW 158 272 [] (fun _ => 0)) ∧ (∀ x0 x1 : Int32, Op LW 163 273 [.int x0, .int x1] (fun k => if k = 2 then 1 else 0)) ∧ (∀ x0 : Int32, Op LW 169 274 [.int x0] (fun k => if k = 2 then 1 else 0)) ∧ (∀ x0 x1 : Int32, Op LW 164 275 [.int x0, .int x1] (fun k => if k = 2 then 1 else if k = 0 then 2 else 0)) ∧ (∀ x0 x1 x2 : Int32, Op LW 165 278 [.int x0, .int x1, .int x2] (fun k => if k = 2 then 1 else if k = 0 then 2 else 0)) ∧ (∀ x0 : Int32, Op LW 166 281 [.int x0] (fun k => if k = 0 then 1 else 0)) ∧ (Op LW 167 282 [] (fun k => if k = 0 then 1 else 0)) ∧ (Op LW 159 284 [] (fun _ => 0)) ∧ (∀ x0 : Int32, Op LW 170 285 [.int x0] (fun _ => 0)) ∧ (Op LW 160 286 [] (fun _ => 0)) ∧ (Op LW 161 287 [] (fun _ => 0)) ∧ (Op LW 162 288 [] (fun _ => 0)) ∧ (∀ x0 : Int32, Op LW 171 290 [.int x0] (fun k => if k = 0 then 1 else 0)) ∧ (∀ x0 x1 x2 : Int32, Op LW 172 291 [.int x0, .int x1, .int x2] (fun k => if k = 2 then 1 else if k = 0 then 2 else if k = 3 then 3 else 0)) ∧ (∀ x0 x1 : Int32, Op LW 173 294 [.int x0, .int x1] (fun k => if k = 0 then 1 else 0)) ∧ (∀ x0 x1 : Int32, Op LW 174 295 [.int x0, .int x1] (fun k => if k = 0 then 1 else 0)) ∧ (∀ x0 x1 : Int32, Op LW 177 297 [.int x0, .int x1] (fun k => if k = 2 then 1 else 0)) ∧ (∀ x0 x1 : Int32, Op LW 178 298 [.int x0, .int x1] (fun k => if k = 3 then 1 else 0)) ∧ (∀ x0 : Int32, Op LW 152 299 [.int x0] (fun _ => 0)) ∧ (Op LW 179 300 [] (fun _ => 0)) ∧ OpV LW 180 301 ∧ (Op LW 181 302 [] (fun _ => 0)) ∧ (∀ x0 : Int32, Op LW 142 304 [.int x0] (fun _ => 0))
theorem law_fin {L i : Nat} (h2 : L ≤ 3072) (hi : i ≤ 4000) : (nI L - 6 < nI i) = ¬ (i + 6 ≤ L) := by
  apply propext
  have a0 := nI0 (n := L) (by omega)
  have b0 := nI0 (n := i) (by omega)
  have a1 : nI L ≤ nI 3072 := nI_le h2 (by decide)
  have b1 : nI i ≤ nI 4000 := nI_le hi (by decide)
  have a2 : nI L ≤ 3072 := a1
  have b2 : nI i ≤ 4000 := b1
  have e6 : nI i + 6 = nI (i + 6) := nI_add i 6
  constructor
  · intro c hc
    have := nI_le hc (show L < 2 ^ 31 by omega)
    rw [← e6] at this
    grind
  · intro hc
    have := nI_lt (show L < i + 6 by omega) (show i + 6 < 2 ^ 31 by omega)
    rw [← e6] at this
    grind
set_option maxRecDepth 8000 in
theorem law_end {LW : mxLW} {L i : Nat} {h : mxH} {w5 w6 : Option Value} (hL2 : L ≤ 3072) (hi : i ≤ L + 6) (c6 : ¬ i + 6 ≤ L) (g : GS LW h) (hL : mx_r h 1 0 = L) (hx : mx_x h + (L + 6 - i) ≤ 4000) (hn : mx_n h + 6 * (L + 6 - i) ≤ 7293034) : mx_wp 1000 346 13 [some (.ref 1), some (.ref 100), some (.ref 381), some (.ref 391), some (.int (nI i)), w5, w6] [] h (fun o h1 => o = .inl (some (.int 1)) ∧ mx_cs h1 ≤ 601024 ∧ mx_n h1 ≤ 7293034) := by
  have G := GS_G g
  refine wp_steps (i' := 18) (ls' := [some (.ref 1), some (.ref 100), some (.ref 381), some (.ref 391), some (.int (nI i)), w5, w6]) (st' := [.int (nI (mx_r h 1 0) - 6), .int (nI i)]) (h' := h) (P := (1 = 1) ∧ True) 5 rfl rfl ⟨rfl, trivial⟩ ?_
  refine wp_br (P := True) (c := nI (mx_r h 1 0) - 6 < nI i) (t := 1567) (st' := []) rfl rfl trivial (fun c => ?_) (fun c => ?_)
  · refine wp_steps (i' := 1568) (ls' := [some (.ref 1), some (.ref 100), some (.ref 381), some (.ref 391), some (.int (nI i)), w5, w6]) (st' := [.int 1]) (h' := h) (P := True) 1 rfl rfl trivial ?_
    refine wp_end (o := .inl (some (.int 1))) (h' := h) (P := ((1 : Int32) = 0 ∨ (1 : Int32) = 1)) rfl rfl (Or.inr rfl) ⟨rfl, ?_, by omega⟩
    show mx_c h + mx_x h ≤ 601024
    rw [G.1]; omega
  · rw [hL, law_fin hL2 (by omega)] at c; exact absurd c6 c
theorem hc_0_1 : ∀ k, (fun k => if k = 0 then 1 else if k = 1 then 2 else 0 : Nat → Int32) k ≠ 0 → (k, (fun k => if k = 0 then 1 else if k = 1 then 2 else 0 : Nat → Int32) k) ∈ ([(0, 1), (1, 2)] : List (Nat × Int32)) := by
  intro k hk
  by_cases e0 : k = 0
  · subst e0; simp
  by_cases e1 : k = 1
  · subst e1; simp
  exact absurd (by simp [e0, e1]) hk
theorem hc_0 : ∀ k, (fun k => if k = 0 then 1 else 0 : Nat → Int32) k ≠ 0 → (k, (fun k => if k = 0 then 1 else 0 : Nat → Int32) k) ∈ ([(0, 1)] : List (Nat × Int32)) := by
  intro k hk
  by_cases e0 : k = 0
  · subst e0; simp
  exact absurd (by simp [e0]) hk
theorem hc_2_3 : ∀ k, (fun k => if k = 2 then 1 else if k = 3 then 2 else 0 : Nat → Int32) k ≠ 0 → (k, (fun k => if k = 2 then 1 else if k = 3 then 2 else 0 : Nat → Int32) k) ∈ ([(2, 1), (3, 2)] : List (Nat × Int32)) := by
  intro k hk
  by_cases e0 : k = 2
  · subst e0; simp
  by_cases e1 : k = 3
  · subst e1; simp
  exact absurd (by simp [e0, e1]) hk
theorem hc_2_0_4 : ∀ k, (fun k => if k = 2 then 1 else if k = 0 then 2 else if k = 4 then 3 else 0 : Nat → Int32) k ≠ 0 → (k, (fun k => if k = 2 then 1 else if k = 0 then 2 else if k = 4 then 3 else 0 : Nat → Int32) k) ∈ ([(2, 1), (0, 2), (4, 3)] : List (Nat × Int32)) := by
  intro k hk
  by_cases e0 : k = 2
  · subst e0; simp
  by_cases e1 : k = 0
  · subst e1; simp
  by_cases e2 : k = 4
  · subst e2; simp
  exact absurd (by simp [e0, e1, e2]) hk
theorem hc_2_4 : ∀ k, (fun k => if k = 2 then 1 else if k = 4 then 2 else 0 : Nat → Int32) k ≠ 0 → (k, (fun k => if k = 2 then 1 else if k = 4 then 2 else 0 : Nat → Int32) k) ∈ ([(2, 1), (4, 2)] : List (Nat × Int32)) := by
  intro k hk
  by_cases e0 : k = 2
  · subst e0; simp
  by_cases e1 : k = 4
  · subst e1; simp
  exact absurd (by simp [e0, e1]) hk
theorem hc_2 : ∀ k, (fun k => if k = 2 then 1 else 0 : Nat → Int32) k ≠ 0 → (k, (fun k => if k = 2 then 1 else 0 : Nat → Int32) k) ∈ ([(2, 1)] : List (Nat × Int32)) := by
  intro k hk
  by_cases e0 : k = 2
  · subst e0; simp
  exact absurd (by simp [e0]) hk
theorem hc_2_0 : ∀ k, (fun k => if k = 2 then 1 else if k = 0 then 2 else 0 : Nat → Int32) k ≠ 0 → (k, (fun k => if k = 2 then 1 else if k = 0 then 2 else 0 : Nat → Int32) k) ∈ ([(2, 1), (0, 2)] : List (Nat × Int32)) := by
  intro k hk
  by_cases e0 : k = 2
  · subst e0; simp
  by_cases e1 : k = 0
  · subst e1; simp
  exact absurd (by simp [e0, e1]) hk
theorem hc_2_0_3 : ∀ k, (fun k => if k = 2 then 1 else if k = 0 then 2 else if k = 3 then 3 else 0 : Nat → Int32) k ≠ 0 → (k, (fun k => if k = 2 then 1 else if k = 0 then 2 else if k = 3 then 3 else 0 : Nat → Int32) k) ∈ ([(2, 1), (0, 2), (3, 3)] : List (Nat × Int32)) := by
  intro k hk
  by_cases e0 : k = 2
  · subst e0; simp
  by_cases e1 : k = 0
  · subst e1; simp
  by_cases e2 : k = 3
  · subst e2; simp
  exact absurd (by simp [e0, e1, e2]) hk
theorem hc_3 : ∀ k, (fun k => if k = 3 then 1 else 0 : Nat → Int32) k ≠ 0 → (k, (fun k => if k = 3 then 1 else 0 : Nat → Int32) k) ∈ ([(3, 1)] : List (Nat × Int32)) := by
  intro k hk
  by_cases e0 : k = 3
  · subst e0; simp
  exact absurd (by simp [e0]) hk
set_option maxRecDepth 8000 in
theorem law_loop {LW : mxLW} (A : Ops LW) {L : Nat} (hL2 : L ≤ 3072) : ∀ (m i : Nat) (h : mxH) (w5 w6 : Option Value), L < i + m → i ≤ L + 6 → GS LW h → fc01 h → mx_r h 1 0 = L → mx_x h + (L + 6 - i) ≤ 4000 → mx_n h + 6 * (L + 6 - i) ≤ 7293034 → mx_wp 1000 346 13 [some (.ref 1), some (.ref 100), some (.ref 381), some (.ref 391), some (.int (nI i)), w5, w6] [] h (fun o h1 => o = .inl (some (.int 1)) ∧ mx_cs h1 ≤ 601024 ∧ mx_n h1 ≤ 7293034) := by
  intro m
  induction m with
  | zero =>
    intro i h w5 w6 hm hi g fc hL hx hn
    exact law_end hL2 hi (by omega) g hL hx hn
  | succ m ih =>
    intro i h w5 w6 hm hi g fc hL hx hn
    by_cases c6 : i + 6 ≤ L
    · have K : ∀ (h2 : mxH) (w5 w6 : Option Value), GS LW h2 → bud h h2 → sc1 h h2 → mx_wp 1000 346 1565 [some (.ref 1), some (.ref 100), some (.ref 381), some (.ref 391), some (.int (nI i)), w5, w6] [] h2 (fun o h1 => o = .inl (some (.int 1)) ∧ mx_cs h1 ≤ 601024 ∧ mx_n h1 ≤ 7293034) := by
        intro h2 w5 w6 g2 bd s2
        refine wp_steps (i' := 1566) (ls' := [some (.ref 1), some (.ref 100), some (.ref 381), some (.ref 391), some (.int (nI i + 6)), w5, w6]) (st' := []) (h' := h2) (P := True) 1 rfl rfl trivial ?_
        refine wp_J (j := 13) (st' := []) rfl rfl ?_
        have e6 : nI i + 6 = nI (i + 6) := nI_add i 6
        rw [e6]
        exact ih (i + 6) h2 w5 w6 (by omega) (by omega) g2 (s2.2.2 fc) (by rw [s2.2.1]; exact hL) (by have := bd.1; omega) (by have := bd.2; omega)
      refine wp_steps (i' := 18) (ls' := [some (.ref 1), some (.ref 100), some (.ref 381), some (.ref 391), some (.int (nI i)), w5, w6]) (st' := [.int (nI (mx_r h 1 0) - 6), .int (nI i)]) (h' := h) (P := (1 = 1) ∧ True) 5 rfl rfl ⟨rfl, trivial⟩ ?_
      refine wp_br (P := True) (c := nI (mx_r h 1 0) - 6 < nI i) (t := 1567) (st' := []) rfl rfl trivial (fun c => ?_) (fun c => ?_)
      · rw [hL, law_fin hL2 (by omega)] at c; exact absurd c6 c
      · clear c
        refine wp_steps (i' := 24) (ls' := [some (.ref 1), some (.ref 100), some (.ref 381), some (.ref 391), some (.int (nI i)), w5, w6]) (st' := [.int (mx_i h 1 (nI i).toNatClampNeg &&& 63)]) (h' := h) (P := (1 = 1 ∧ vp_in (nI i) (mx_r h 1 0)) ∧ True) 5 rfl rfl ⟨⟨rfl, by rw [hL]; exact vp_in_nI (by omega) (by omega)⟩, trivial⟩ ?_
        refine wp_J (j := mx_sw 0 [25, 82, 99, 124, 149, 156, 201, 246, 291, 336, 391, 426, 461, 506, 541, 586, 631, 666, 701, 746, 781, 819, 854, 899, 906, 959, 994, 1042, 1097, 1140, 1165, 1172, 1197, 1204, 1211, 1218, 1253, 1308, 1361, 1414, 1467, 1512, 1529, 1536, 1541, 1548] 1565 (mx_i h 1 (nI i).toNatClampNeg &&& 63)) (st' := []) rfl rfl ?_
        generalize mx_i h 1 (nI i).toNatClampNeg &&& 63 = x
        refine wp_sw (fun _ => cs_0 (A.1) (fun _ => rfl) g hL c6 hL2 K) (fun _ => ?_)
        refine wp_sw (fun _ => cs_1 (A.2.1) (fun _ => rfl) g hL c6 hL2 K) (fun _ => ?_)
        refine wp_sw (fun _ => cs_2 (A.2.2.1) hc_0_1 g hL c6 hL2 K) (fun _ => ?_)
        refine wp_sw (fun _ => cs_3 (A.2.2.2.1) fc hc_0 g hL c6 hL2 K) (fun _ => ?_)
        refine wp_sw (fun _ => cs_4 (A.2.2.2.2.1) (fun _ => rfl) g hL c6 hL2 K) (fun _ => ?_)
        refine wp_sw (fun _ => cs_5 (A.2.2.2.2.2.1) hc_2_3 g hL c6 hL2 K) (fun _ => ?_)
        refine wp_sw (fun _ => cs_6 (A.2.2.2.2.2.2.1) hc_2_3 g hL c6 hL2 K) (fun _ => ?_)
        refine wp_sw (fun _ => cs_7 (A.2.2.2.2.2.2.2.1) hc_2_3 g hL c6 hL2 K) (fun _ => ?_)
        refine wp_sw (fun _ => cs_8 (A.2.2.2.2.2.2.2.2.1) hc_2_3 g hL c6 hL2 K) (fun _ => ?_)
        refine wp_sw (fun _ => cs_9 (A.2.2.2.2.2.2.2.2.2.1) hc_2_0_4 g hL c6 hL2 K) (fun _ => ?_)
        refine wp_sw (fun _ => cs_10 (A.2.2.2.2.2.2.2.2.2.2.1) hc_2_4 g hL c6 hL2 K) (fun _ => ?_)
        refine wp_sw (fun _ => cs_11 (A.2.2.2.2.2.2.2.2.2.2.2.1) hc_2_4 g hL c6 hL2 K) (fun _ => ?_)
        refine wp_sw (fun _ => cs_12 (A.2.2.2.2.2.2.2.2.2.2.2.2.1) hc_2_0_4 g hL c6 hL2 K) (fun _ => ?_)
        refine wp_sw (fun _ => cs_13 (A.2.2.2.2.2.2.2.2.2.2.2.2.2.1) hc_2_4 g hL c6 hL2 K) (fun _ => ?_)
        refine wp_sw (fun _ => cs_14 (A.2.2.2.2.2.2.2.2.2.2.2.2.2.2.1) hc_2_4 g hL c6 hL2 K) (fun _ => ?_)
        refine wp_sw (fun _ => cs_15 (A.2.2.2.2.2.2.2.2.2.2.2.2.2.2.2.1) hc_2 g hL c6 hL2 K) (fun _ => ?_)
        refine wp_sw (fun _ => cs_16 (A.2.2.2.2.2.2.2.2.2.2.2.2.2.2.2.2.1) hc_2 g hL c6 hL2 K) (fun _ => ?_)
        refine wp_sw (fun _ => cs_17 (A.2.2.2.2.2.2.2.2.2.2.2.2.2.2.2.2.2.1) hc_0 g hL c6 hL2 K) (fun _ => ?_)
        refine wp_sw (fun _ => cs_18 (A.2.2.2.2.2.2.2.2.2.2.2.2.2.2.2.2.2.2.1) hc_2 g hL c6 hL2 K) (fun _ => ?_)
        refine wp_sw (fun _ => cs_19 (A.2.2.2.2.2.2.2.2.2.2.2.2.2.2.2.2.2.2.2.1) hc_2 g hL c6 hL2 K) (fun _ => ?_)
        refine wp_sw (fun _ => cs_20 (A.2.2.2.2.2.2.2.2.2.2.2.2.2.2.2.2.2.2.2.2.1) hc_2 g hL c6 hL2 K) (fun _ => ?_)
        refine wp_sw (fun _ => cs_21 (A.2.2.2.2.2.2.2.2.2.2.2.2.2.2.2.2.2.2.2.2.2.1) hc_2 g hL c6 hL2 K) (fun _ => ?_)
        refine wp_sw (fun _ => cs_22 (A.2.2.2.2.2.2.2.2.2.2.2.2.2.2.2.2.2.2.2.2.2.2.1) hc_2 g hL c6 hL2 K) (fun _ => ?_)
        refine wp_sw (fun _ => cs_23 (A.2.2.2.2.2.2.2.2.2.2.2.2.2.2.2.2.2.2.2.2.2.2.2.1) (fun _ => rfl) g hL c6 hL2 K) (fun _ => ?_)
        refine wp_sw (fun _ => cs_24 (A.2.2.2.2.2.2.2.2.2.2.2.2.2.2.2.2.2.2.2.2.2.2.2.2.1) hc_2 g hL c6 hL2 K) (fun _ => ?_)
        refine wp_sw (fun _ => cs_25 (A.2.2.2.2.2.2.2.2.2.2.2.2.2.2.2.2.2.2.2.2.2.2.2.2.2.1) hc_2 g hL c6 hL2 K) (fun _ => ?_)
        refine wp_sw (fun _ => cs_26 (A.2.2.2.2.2.2.2.2.2.2.2.2.2.2.2.2.2.2.2.2.2.2.2.2.2.2.1) hc_2_0 g hL c6 hL2 K) (fun _ => ?_)
        refine wp_sw (fun _ => cs_27 (A.2.2.2.2.2.2.2.2.2.2.2.2.2.2.2.2.2.2.2.2.2.2.2.2.2.2.2.1) hc_2_0 g hL c6 hL2 K) (fun _ => ?_)
        refine wp_sw (fun _ => cs_28 (A.2.2.2.2.2.2.2.2.2.2.2.2.2.2.2.2.2.2.2.2.2.2.2.2.2.2.2.2.1) hc_0 g hL c6 hL2 K) (fun _ => ?_)
        refine wp_sw (fun _ => cs_29 (A.2.2.2.2.2.2.2.2.2.2.2.2.2.2.2.2.2.2.2.2.2.2.2.2.2.2.2.2.2.1) hc_0 g hL c6 hL2 K) (fun _ => ?_)
        refine wp_sw (fun _ => cs_30 (A.2.2.2.2.2.2.2.2.2.2.2.2.2.2.2.2.2.2.2.2.2.2.2.2.2.2.2.2.2.2.1) (fun _ => rfl) g hL c6 hL2 K) (fun _ => ?_)
        refine wp_sw (fun _ => cs_31 (A.2.2.2.2.2.2.2.2.2.2.2.2.2.2.2.2.2.2.2.2.2.2.2.2.2.2.2.2.2.2.2.1) (fun _ => rfl) g hL c6 hL2 K) (fun _ => ?_)
        refine wp_sw (fun _ => cs_32 (A.2.2.2.2.2.2.2.2.2.2.2.2.2.2.2.2.2.2.2.2.2.2.2.2.2.2.2.2.2.2.2.2.1) (fun _ => rfl) g hL c6 hL2 K) (fun _ => ?_)
        refine wp_sw (fun _ => cs_33 (A.2.2.2.2.2.2.2.2.2.2.2.2.2.2.2.2.2.2.2.2.2.2.2.2.2.2.2.2.2.2.2.2.2.1) (fun _ => rfl) g hL c6 hL2 K) (fun _ => ?_)
        refine wp_sw (fun _ => cs_34 (A.2.2.2.2.2.2.2.2.2.2.2.2.2.2.2.2.2.2.2.2.2.2.2.2.2.2.2.2.2.2.2.2.2.2.1) (fun _ => rfl) g hL c6 hL2 K) (fun _ => ?_)
        refine wp_sw (fun _ => cs_35 (A.2.2.2.2.2.2.2.2.2.2.2.2.2.2.2.2.2.2.2.2.2.2.2.2.2.2.2.2.2.2.2.2.2.2.2.1) hc_0 g hL c6 hL2 K) (fun _ => ?_)
        refine wp_sw (fun _ => cs_36 (A.2.2.2.2.2.2.2.2.2.2.2.2.2.2.2.2.2.2.2.2.2.2.2.2.2.2.2.2.2.2.2.2.2.2.2.2.1) hc_2_0_3 g hL c6 hL2 K) (fun _ => ?_)
        refine wp_sw (fun _ => cs_37 (A.2.2.2.2.2.2.2.2.2.2.2.2.2.2.2.2.2.2.2.2.2.2.2.2.2.2.2.2.2.2.2.2.2.2.2.2.2.1) hc_0 g hL c6 hL2 K) (fun _ => ?_)
        refine wp_sw (fun _ => cs_38 (A.2.2.2.2.2.2.2.2.2.2.2.2.2.2.2.2.2.2.2.2.2.2.2.2.2.2.2.2.2.2.2.2.2.2.2.2.2.2.1) hc_0 g hL c6 hL2 K) (fun _ => ?_)
        refine wp_sw (fun _ => cs_39 (A.2.2.2.2.2.2.2.2.2.2.2.2.2.2.2.2.2.2.2.2.2.2.2.2.2.2.2.2.2.2.2.2.2.2.2.2.2.2.2.1) hc_2 g hL c6 hL2 K) (fun _ => ?_)
        refine wp_sw (fun _ => cs_40 (A.2.2.2.2.2.2.2.2.2.2.2.2.2.2.2.2.2.2.2.2.2.2.2.2.2.2.2.2.2.2.2.2.2.2.2.2.2.2.2.2.1) hc_3 g hL c6 hL2 K) (fun _ => ?_)
        refine wp_sw (fun _ => cs_41 (A.2.2.2.2.2.2.2.2.2.2.2.2.2.2.2.2.2.2.2.2.2.2.2.2.2.2.2.2.2.2.2.2.2.2.2.2.2.2.2.2.2.1) (fun _ => rfl) g hL c6 hL2 K) (fun _ => ?_)
        refine wp_sw (fun _ => cs_42 (A.2.2.2.2.2.2.2.2.2.2.2.2.2.2.2.2.2.2.2.2.2.2.2.2.2.2.2.2.2.2.2.2.2.2.2.2.2.2.2.2.2.2.1) (fun _ => rfl) g hL c6 hL2 K) (fun _ => ?_)
        refine wp_sw (fun _ => cs_43 (A.2.2.2.2.2.2.2.2.2.2.2.2.2.2.2.2.2.2.2.2.2.2.2.2.2.2.2.2.2.2.2.2.2.2.2.2.2.2.2.2.2.2.2.1) g hL c6 hL2 K) (fun _ => ?_)
        refine wp_sw (fun _ => cs_44 (A.2.2.2.2.2.2.2.2.2.2.2.2.2.2.2.2.2.2.2.2.2.2.2.2.2.2.2.2.2.2.2.2.2.2.2.2.2.2.2.2.2.2.2.2.1) (fun _ => rfl) g hL c6 hL2 K) (fun _ => ?_)
        refine wp_sw (fun _ => cs_45 (A.2.2.2.2.2.2.2.2.2.2.2.2.2.2.2.2.2.2.2.2.2.2.2.2.2.2.2.2.2.2.2.2.2.2.2.2.2.2.2.2.2.2.2.2.2) (fun _ => rfl) g hL c6 hL2 K) (fun _ => ?_)
        exact K h _ _ g ⟨by omega, by omega⟩ sc1_rfl
    · exact law_end hL2 hi c6 g hL hx hn
