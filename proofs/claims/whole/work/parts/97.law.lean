/-! THE LAW'S CASES -/
def GS (LW : mxLW) (h : mxH) : Prop := ∃ vn vd vr vq np ns nl, Inv LW h vn vd vr vq np ns nl
theorem GS_G {LW : mxLW} {h : mxH} (g : GS LW h) : mxG h := by obtain ⟨a, b, c, d, e, f, q, I⟩ := g; exact I.1
theorem mdl_rfl {h : mxH} : mdl h h := ⟨rfl, rfl, rfl, rfl, rfl⟩
theorem mdl_wl {h : mxH} {v : Int64} : mdl h (mx_wl h 391 0 v) := ⟨rfl, rfl, rfl, rfl, rfl⟩
theorem lgc (x : Int64) : lg_cmp x x = 0 := by
  unfold lg_cmp
  rw [if_neg (by simp), if_pos rfl]
theorem wl_at {h : mxH} {v : Int64} : mx_l (mx_wl h 391 0 v) 391 0 = v := by
  show mx_up (mx_l h) 391 0 v 391 0 = v
  unfold mx_up
  rw [if_pos ⟨rfl, rfl⟩]
theorem vpi {h : mxH} {i L j : Nat} {k : Int32} (hL : mx_r h 1 0 = L) (hi : i + 6 ≤ L) (hL2 : L ≤ 3072) (hj : j < 6) (hk : k = nI j := by rfl) : vp_in (nI i + k) (mx_r h 1 0) := by
  rw [hL, hk, nI_add]
  exact vp_in_nI (by omega) (by omega)
/-- an answer, or an exception that is told -/
theorem ans_cases {code : Nat → Int32} {o : mxO} {b t : Int32} (a : ansOk code o b t) : (∃ v, o = .inl (some (.int v)) ∧ t = 0 ∧ v = b) ∨ ∃ k, o = .inr k ∧ t = code k ∧ code k ≠ 0 := by
  unfold ansOk at a
  split at a
  · exact .inl ⟨_, rfl, a⟩
  · exact .inr ⟨_, rfl, a⟩
  · exact absurd a (fun e => e)
set_option maxRecDepth 8000 in
theorem cs_0 {LW : mxLW} {h : mxH} {i L : Nat} {w5 w6 : Option Value} {Qf : mxO → mxH → Prop} {code : Nat → Int32} (O : ∀ x0 x1 x2 x3 x4 : Int32, Op LW 132 207 [.int x0, .int x1, .int x2, .int x3, .int x4] code) (hcode : ∀ k, code k = 0) (g : GS LW h) (hL : mx_r h 1 0 = L) (hi : i + 6 ≤ L) (hL2 : L ≤ 3072) (K : ∀ (h2 : mxH) (w5 w6 : Option Value), GS LW h2 → bud h h2 → sc1 h h2 → mx_wp 1000 346 1565 [some (.ref 1), some (.ref 100), some (.ref 381), some (.ref 391), some (.int (nI i)), w5, w6] [] h2 Qf) : mx_wp 1000 346 25 [some (.ref 1), some (.ref 100), some (.ref 381), some (.ref 391), some (.int (nI i)), w5, w6] [] h Qf := by
  have G := GS_G g
  obtain ⟨vn, vd, vr, vq, np, ns, nl, I⟩ := g
  refine wp_steps (i' := 51) (ls' := [some (.ref 1), some (.ref 100), some (.ref 381), some (.ref 391), some (.int (nI i)), w5, w6]) (st' := [.int (mx_i h 1 (nI i + 5).toNatClampNeg), .int (mx_i h 1 (nI i + 4).toNatClampNeg), .int (mx_i h 1 (nI i + 3).toNatClampNeg), .int (mx_i h 1 (nI i + 2).toNatClampNeg), .int (mx_i h 1 (nI i + 1).toNatClampNeg), .ref 100]) (h' := h) (P := (1 = 1 ∧ vp_in (nI i + 1) (mx_r h 1 0)) ∧ (1 = 1 ∧ vp_in (nI i + 2) (mx_r h 1 0)) ∧ (1 = 1 ∧ vp_in (nI i + 3) (mx_r h 1 0)) ∧ (1 = 1 ∧ vp_in (nI i + 4) (mx_r h 1 0)) ∧ (1 = 1 ∧ vp_in (nI i + 5) (mx_r h 1 0)) ∧ True) 26 rfl rfl ⟨⟨rfl, vpi hL hi hL2 (j := 1) (by decide)⟩, ⟨rfl, vpi hL hi hL2 (j := 2) (by decide)⟩, ⟨rfl, vpi hL hi hL2 (j := 3) (by decide)⟩, ⟨rfl, vpi hL hi hL2 (j := 4) (by decide)⟩, ⟨rfl, vpi hL hi hL2 (j := 5) (by decide)⟩, trivial⟩ ?_
  refine wp_call (b := false) (y' := 132) (as := [.ref 100, .int (mx_i h 1 (nI i + 1).toNatClampNeg), .int (mx_i h 1 (nI i + 2).toNatClampNeg), .int (mx_i h 1 (nI i + 3).toNatClampNeg), .int (mx_i h 1 (nI i + 4).toNatClampNeg), .int (mx_i h 1 (nI i + 5).toNatClampNeg)]) (rest := []) (P := ((mxT 100).1 = mxRc 132 ∧ mxG h)) rfl (by with_unfolding_all rfl) ⟨congrArg Prod.fst sT_100, G⟩ (Nat.le_of_ble_eq_true rfl) (mx_wp.mono (fun o h1 q => ?_) (wp_dm (by decide : 500 ≤ 999) (wp_S1 (wp_G (by decide +kernel) G (O (mx_i h 1 (nI i + 1).toNatClampNeg) (mx_i h 1 (nI i + 2).toNatClampNeg) (mx_i h 1 (nI i + 3).toNatClampNeg) (mx_i h 1 (nI i + 4).toNatClampNeg) (mx_i h 1 (nI i + 5).toNatClampNeg) h vn vd vr vq np ns nl I)))))
  obtain ⟨s1, G1, post⟩ := q
  obtain ⟨n0, o20, h20, e0, b0, eb0, an0, r0⟩ := post h1 mdl_rfl
  rcases ans_cases an0 with ⟨v, rfl, -, -⟩ | ⟨kx, -, -, q⟩
  rotate_left
  · exact absurd (hcode kx) q
  show mx_wp 1000 346 52 [some (.ref 1), some (.ref 100), some (.ref 381), some (.ref 391), some (.int (nI i)), w5, w6] [.int v] h1 Qf
  have hL1 : mx_r h1 1 0 = L := by rw [s1.2.1]; exact hL
  have sch : mx_i h1 1 = mx_i h 1 := s1.1
  refine wp_steps (i' := 78) (ls' := [some (.ref 1), some (.ref 100), some (.ref 381), some (.ref 391), some (.int (nI i)), w5, w6]) (st' := [.int (mx_i h1 1 (nI i + 5).toNatClampNeg), .int (mx_i h1 1 (nI i + 4).toNatClampNeg), .int (mx_i h1 1 (nI i + 3).toNatClampNeg), .int (mx_i h1 1 (nI i + 2).toNatClampNeg), .int (mx_i h1 1 (nI i + 1).toNatClampNeg), .ref 381, .int v]) (h' := h1) (P := (1 = 1 ∧ vp_in (nI i + 1) (mx_r h1 1 0)) ∧ (1 = 1 ∧ vp_in (nI i + 2) (mx_r h1 1 0)) ∧ (1 = 1 ∧ vp_in (nI i + 3) (mx_r h1 1 0)) ∧ (1 = 1 ∧ vp_in (nI i + 4) (mx_r h1 1 0)) ∧ (1 = 1 ∧ vp_in (nI i + 5) (mx_r h1 1 0)) ∧ True) 26 rfl rfl ⟨⟨rfl, vpi hL1 hi hL2 (j := 1) (by decide)⟩, ⟨rfl, vpi hL1 hi hL2 (j := 2) (by decide)⟩, ⟨rfl, vpi hL1 hi hL2 (j := 3) (by decide)⟩, ⟨rfl, vpi hL1 hi hL2 (j := 4) (by decide)⟩, ⟨rfl, vpi hL1 hi hL2 (j := 5) (by decide)⟩, trivial⟩ ?_
  rw [sch]
  refine wp_call (b := false) (y' := 207) (as := [.ref 381, .int (mx_i h 1 (nI i + 1).toNatClampNeg), .int (mx_i h 1 (nI i + 2).toNatClampNeg), .int (mx_i h 1 (nI i + 3).toNatClampNeg), .int (mx_i h 1 (nI i + 4).toNatClampNeg), .int (mx_i h 1 (nI i + 5).toNatClampNeg)]) (rest := [.int v]) (P := ((mxT 381).1 = mxRc 207 ∧ mxG h1)) rfl (by with_unfolding_all rfl) ⟨congrArg Prod.fst sT_381, G1⟩ (Nat.le_of_ble_eq_true rfl) (mx_wp.mono (fun o h2 q => ?_) (wp_dm (by decide : 500 ≤ 999) (wp_S1 (post h1 mdl_rfl))))
  obtain ⟨s2, b, rfl, an, bd, g2⟩ := q
  have evb : v = b := an.2
  show mx_wp 1000 346 79 [some (.ref 1), some (.ref 100), some (.ref 381), some (.ref 391), some (.int (nI i)), w5, w6] [.int b, .int v] h2 Qf
  refine wp_br (P := True) (c := v = b) (t := 1565) (st' := []) rfl rfl trivial (fun _ => ?_) (fun c => absurd evb c)
  exact K h2 _ _ g2 bd (sc1_tr s1 s2)
set_option maxRecDepth 8000 in
theorem cs_1 {LW : mxLW} {h : mxH} {i L : Nat} {w5 w6 : Option Value} {Qf : mxO → mxH → Prop} {code : Nat → Int32} (O : ∀ x0 : Int32, Op LW 133 208 [.int x0] code) (hcode : ∀ k, code k = 0) (g : GS LW h) (hL : mx_r h 1 0 = L) (hi : i + 6 ≤ L) (hL2 : L ≤ 3072) (K : ∀ (h2 : mxH) (w5 w6 : Option Value), GS LW h2 → bud h h2 → sc1 h h2 → mx_wp 1000 346 1565 [some (.ref 1), some (.ref 100), some (.ref 381), some (.ref 391), some (.int (nI i)), w5, w6] [] h2 Qf) : mx_wp 1000 346 82 [some (.ref 1), some (.ref 100), some (.ref 381), some (.ref 391), some (.int (nI i)), w5, w6] [] h Qf := by
  have G := GS_G g
  obtain ⟨vn, vd, vr, vq, np, ns, nl, I⟩ := g
  refine wp_steps (i' := 88) (ls' := [some (.ref 1), some (.ref 100), some (.ref 381), some (.ref 391), some (.int (nI i)), w5, w6]) (st' := [.int (mx_i h 1 (nI i + 1).toNatClampNeg), .ref 100]) (h' := h) (P := (1 = 1 ∧ vp_in (nI i + 1) (mx_r h 1 0)) ∧ True) 6 rfl rfl ⟨⟨rfl, vpi hL hi hL2 (j := 1) (by decide)⟩, trivial⟩ ?_
  refine wp_call (b := false) (y' := 133) (as := [.ref 100, .int (mx_i h 1 (nI i + 1).toNatClampNeg)]) (rest := []) (P := ((mxT 100).1 = mxRc 133 ∧ mxG h)) rfl (by with_unfolding_all rfl) ⟨congrArg Prod.fst sT_100, G⟩ (Nat.le_of_ble_eq_true rfl) (mx_wp.mono (fun o h1 q => ?_) (wp_dm (by decide : 500 ≤ 999) (wp_S1 (wp_G (by decide +kernel) G (O (mx_i h 1 (nI i + 1).toNatClampNeg) h vn vd vr vq np ns nl I)))))
  obtain ⟨s1, G1, post⟩ := q
  obtain ⟨n0, o20, h20, e0, b0, eb0, an0, r0⟩ := post h1 mdl_rfl
  rcases ans_cases an0 with ⟨v, rfl, -, -⟩ | ⟨kx, -, -, q⟩
  rotate_left
  · exact absurd (hcode kx) q
  show mx_wp 1000 346 89 [some (.ref 1), some (.ref 100), some (.ref 381), some (.ref 391), some (.int (nI i)), w5, w6] [.int v] h1 Qf
  have hL1 : mx_r h1 1 0 = L := by rw [s1.2.1]; exact hL
  have sch : mx_i h1 1 = mx_i h 1 := s1.1
  refine wp_steps (i' := 95) (ls' := [some (.ref 1), some (.ref 100), some (.ref 381), some (.ref 391), some (.int (nI i)), w5, w6]) (st' := [.int (mx_i h1 1 (nI i + 1).toNatClampNeg), .ref 381, .int v]) (h' := h1) (P := (1 = 1 ∧ vp_in (nI i + 1) (mx_r h1 1 0)) ∧ True) 6 rfl rfl ⟨⟨rfl, vpi hL1 hi hL2 (j := 1) (by decide)⟩, trivial⟩ ?_
  rw [sch]
  refine wp_call (b := false) (y' := 208) (as := [.ref 381, .int (mx_i h 1 (nI i + 1).toNatClampNeg)]) (rest := [.int v]) (P := ((mxT 381).1 = mxRc 208 ∧ mxG h1)) rfl (by with_unfolding_all rfl) ⟨congrArg Prod.fst sT_381, G1⟩ (Nat.le_of_ble_eq_true rfl) (mx_wp.mono (fun o h2 q => ?_) (wp_dm (by decide : 500 ≤ 999) (wp_S1 (post h1 mdl_rfl))))
  obtain ⟨s2, b, rfl, an, bd, g2⟩ := q
  have evb : v = b := an.2
  show mx_wp 1000 346 96 [some (.ref 1), some (.ref 100), some (.ref 381), some (.ref 391), some (.int (nI i)), w5, w6] [.int b, .int v] h2 Qf
  refine wp_br (P := True) (c := v = b) (t := 1565) (st' := []) rfl rfl trivial (fun _ => ?_) (fun c => absurd evb c)
  exact K h2 _ _ g2 bd (sc1_tr s1 s2)
set_option maxRecDepth 8000 in
theorem cs_2 {LW : mxLW} {h : mxH} {i L : Nat} {w5 w6 : Option Value} {Qf : mxO → mxH → Prop} {code : Nat → Int32} (O : Op LW 134 227 [] code) (hcs : ∀ k, code k ≠ 0 → (k, code k) ∈ ([(0, 1), (1, 2)] : List (Nat × Int32))) (g : GS LW h) (hL : mx_r h 1 0 = L) (hi : i + 6 ≤ L) (hL2 : L ≤ 3072) (K : ∀ (h2 : mxH) (w5 w6 : Option Value), GS LW h2 → bud h h2 → sc1 h h2 → mx_wp 1000 346 1565 [some (.ref 1), some (.ref 100), some (.ref 381), some (.ref 391), some (.int (nI i)), w5, w6] [] h2 Qf) : mx_wp 1000 346 99 [some (.ref 1), some (.ref 100), some (.ref 381), some (.ref 391), some (.int (nI i)), w5, w6] [] h Qf := by
  have G := GS_G g
  obtain ⟨vn, vd, vr, vq, np, ns, nl, I⟩ := g
  have step : ∀ (o : mxO) (h1 hm : mxH) (kk : Int32), mxG h1 → sc1 h h1 → (∀ hm, mdl h1 hm → mx_wp 500 227 0 (mx_fr 227 [.ref 381]) [] hm (fun o2 h2 => ∃ b, o2 = .inl (some (.int b)) ∧ ansOk code o b (mx_i h2 381 0) ∧ bud h h2 ∧ GS LW h2)) → mdl h1 hm → (∀ b t, ansOk code o b t → t = kk ∧ (kk = 0 → lg_cmp (mx_l hm 391 0) b.toInt64 = 0)) → mx_wp 1000 346 102 [some (.ref 1), some (.ref 100), some (.ref 381), some (.ref 391), some (.int (nI i)), w5, w6] [.int kk] hm Qf := by
    intro o h1 hm kk G1 s1 post hmd hk
    have sch : mx_i hm 1 = mx_i h 1 := by rw [hmd.2.2.2.1]; exact s1.1
    have hLm : mx_r hm 1 0 = L := by rw [hmd.2.2.2.2, s1.2.1]; exact hL
    have Gm : mxG hm := agr_G (P := fun _ => False) (agr_mdl hmd) G1
    refine wp_steps (i' := 103) (ls' := [some (.ref 1), some (.ref 100), some (.ref 381), some (.ref 391), some (.int (nI i)), some (.int kk), w6]) (st' := []) (h' := hm) (P := True) 1 rfl rfl trivial ?_
    refine wp_steps (i' := 104) (ls' := [some (.ref 1), some (.ref 100), some (.ref 381), some (.ref 391), some (.int (nI i)), some (.int kk), w6]) (st' := [.ref 381]) (h' := hm) (P := True) 1 rfl rfl trivial ?_
    skip
    refine wp_call (b := false) (y' := 227) (as := [.ref 381]) (rest := []) (P := ((mxT 381).1 = mxRc 227 ∧ mxG hm)) rfl (by with_unfolding_all rfl) ⟨congrArg Prod.fst sT_381, Gm⟩ (Nat.le_of_ble_eq_true rfl) (mx_wp.mono (fun o2 h2 q => ?_) (wp_dm (by decide : 500 ≤ 999) (wp_L (by decide +kernel) Gm (wp_S1 (post hm hmd)))))
    obtain ⟨ql, s2, b, rfl, an, bd, g2⟩ := q
    obtain ⟨et, el⟩ := hk b _ an
    have G2 := GS_G g2
    show mx_wp 1000 346 105 [some (.ref 1), some (.ref 100), some (.ref 381), some (.ref 391), some (.int (nI i)), some (.int kk), w6] [.int b] h2 Qf
    refine wp_steps (i' := 107) (ls' := [some (.ref 1), some (.ref 100), some (.ref 381), some (.ref 391), some (.int (nI i)), some (.int kk), some (.int b)]) (st' := [.ref 381]) (h' := h2) (P := True) 2 rfl rfl trivial ?_
    refine wp_call (b := false) (y' := 190) (as := [.ref 381]) (rest := []) (P := ((mxT 381).1 = mxRc 190 ∧ mxG h2)) rfl (by with_unfolding_all rfl) ⟨congrArg Prod.fst sT_381, G2⟩ (Nat.le_of_ble_eq_true rfl) (tr_190_0 G2 ?_)
    show mx_wp 1000 346 108 [some (.ref 1), some (.ref 100), some (.ref 381), some (.ref 391), some (.int (nI i)), some (.int kk), some (.int b)] [.int (mx_i h2 381 0)] h2 Qf
    rw [et]
    refine wp_steps (i' := 109) (ls' := [some (.ref 1), some (.ref 100), some (.ref 381), some (.ref 391), some (.int (nI i)), some (.int kk), some (.int b)]) (st' := [.int kk, .int kk]) (h' := h2) (P := True) 1 rfl rfl trivial ?_
    refine wp_br (P := True) (c := kk = kk) (t := 112) (st' := []) rfl rfl trivial (fun _ => ?_) (fun c => absurd rfl c)
    refine wp_steps (i' := 113) (ls' := [some (.ref 1), some (.ref 100), some (.ref 381), some (.ref 391), some (.int (nI i)), some (.int kk), some (.int b)]) (st' := [.int kk]) (h' := h2) (P := True) 1 rfl rfl trivial ?_
    refine wp_br (P := True) (c := ¬ kk = 0) (t := 123) (st' := []) rfl rfl trivial (fun _ => ?_) (fun c => ?_)
    · refine wp_J (j := 1565) (st' := []) rfl rfl ?_
      exact K h2 _ _ g2 bd (sc1_tr s1 (sc1_tr (sc1_mdl hmd) s2))
    · have c0 := el (Decidable.of_not_not c)
      rw [← ql] at c0
      refine wp_steps (i' := 120) (ls' := [some (.ref 1), some (.ref 100), some (.ref 381), some (.ref 391), some (.int (nI i)), some (.int kk), some (.int b)]) (st' := [.int (lg_cmp (mx_l h2 391 0) b.toInt64)]) (h' := h2) (P := (((mxT 391).1 = 52 ∧ mxG h2) ∧ vp_in 0 (mxT 391).2) ∧ True) 6 rfl rfl ⟨cA sT_391 G2 (vpl rfl), trivial⟩ ?_
      refine wp_br (P := True) (c := lg_cmp (mx_l h2 391 0) b.toInt64 = 0) (t := 123) (st' := []) rfl rfl trivial (fun _ => ?_) (fun c => absurd c0 c)
      refine wp_J (j := 1565) (st' := []) rfl rfl ?_
      exact K h2 _ _ g2 bd (sc1_tr s1 (sc1_tr (sc1_mdl hmd) s2))
  refine wp_steps (i' := 101) (ls' := [some (.ref 1), some (.ref 100), some (.ref 381), some (.ref 391), some (.int (nI i)), w5, w6]) (st' := [.ref 391, .ref 100]) (h' := h) (P := True) 2 rfl rfl trivial ?_
  refine wp_call (b := false) (y' := 314) (as := [.ref 100, .ref 391]) (rest := []) (P := True) rfl (by with_unfolding_all rfl) trivial (Nat.le_of_ble_eq_true rfl) (wr_314 G (mx_wp.mono (fun o h1 q => ?_) (wp_dm (by decide : 500 ≤ 998) (wp_S1 (wp_G (by decide +kernel) G (O  h vn vd vr vq np ns nl I))))))
  obtain ⟨s1, G1, post⟩ := q
  obtain ⟨n0, o20, h20, e0, b0, eb0, an0, r0⟩ := post h1 mdl_rfl
  refine ⟨G1, ?_⟩
  rcases ans_cases an0 with ⟨v, rfl, -, -⟩ | ⟨kx, rfl, -, q⟩
  · show mx_wp 1000 346 102 [some (.ref 1), some (.ref 100), some (.ref 381), some (.ref 391), some (.int (nI i)), w5, w6] [.int 0] (mx_wl h1 391 0 v.toInt64) Qf
    refine step _ h1 _ 0 G1 s1 post mdl_wl (fun b t a => ⟨a.1, fun _ => ?_⟩)
    have hvb : v = b := a.2
    rw [wl_at, hvb]; exact lgc _
  · refine ⟨code kx, hcs kx q, ?_⟩
    show mx_wp 1000 346 102 [some (.ref 1), some (.ref 100), some (.ref 381), some (.ref 391), some (.int (nI i)), w5, w6] [.int (code kx)] h1 Qf
    exact step _ h1 _ _ G1 s1 post mdl_rfl (fun b t a => ⟨a.1, fun e => absurd e q⟩)
set_option maxRecDepth 8000 in
theorem cs_3 {LW : mxLW} {h : mxH} {i L : Nat} {w5 w6 : Option Value} {Qf : mxO → mxH → Prop} {code : Nat → Int32} (O : OpF LW 135 235 [] code) (fc : fc01 h) (hcs : ∀ k, code k ≠ 0 → (k, code k) ∈ ([(0, 1)] : List (Nat × Int32))) (g : GS LW h) (hL : mx_r h 1 0 = L) (hi : i + 6 ≤ L) (hL2 : L ≤ 3072) (K : ∀ (h2 : mxH) (w5 w6 : Option Value), GS LW h2 → bud h h2 → sc1 h h2 → mx_wp 1000 346 1565 [some (.ref 1), some (.ref 100), some (.ref 381), some (.ref 391), some (.int (nI i)), w5, w6] [] h2 Qf) : mx_wp 1000 346 124 [some (.ref 1), some (.ref 100), some (.ref 381), some (.ref 391), some (.int (nI i)), w5, w6] [] h Qf := by
  have G := GS_G g
  obtain ⟨vn, vd, vr, vq, np, ns, nl, I⟩ := g
  have step : ∀ (o : mxO) (h1 hm : mxH) (kk : Int32), mxG h1 → sc1 h h1 → (∀ hm, mdl h1 hm → mx_wp 500 235 0 (mx_fr 235 [.ref 381]) [] hm (fun o2 h2 => ∃ b, o2 = .inl (some (.int b)) ∧ ansOk code o b (mx_i h2 381 0) ∧ bud h h2 ∧ GS LW h2)) → mdl h1 hm → (∀ b t, ansOk code o b t → t = kk ∧ (kk = 0 → lg_cmp (mx_l hm 391 0) b.toInt64 = 0)) → mx_wp 1000 346 127 [some (.ref 1), some (.ref 100), some (.ref 381), some (.ref 391), some (.int (nI i)), w5, w6] [.int kk] hm Qf := by
    intro o h1 hm kk G1 s1 post hmd hk
    have sch : mx_i hm 1 = mx_i h 1 := by rw [hmd.2.2.2.1]; exact s1.1
    have hLm : mx_r hm 1 0 = L := by rw [hmd.2.2.2.2, s1.2.1]; exact hL
    have Gm : mxG hm := agr_G (P := fun _ => False) (agr_mdl hmd) G1
    refine wp_steps (i' := 128) (ls' := [some (.ref 1), some (.ref 100), some (.ref 381), some (.ref 391), some (.int (nI i)), some (.int kk), w6]) (st' := []) (h' := hm) (P := True) 1 rfl rfl trivial ?_
    refine wp_steps (i' := 129) (ls' := [some (.ref 1), some (.ref 100), some (.ref 381), some (.ref 391), some (.int (nI i)), some (.int kk), w6]) (st' := [.ref 381]) (h' := hm) (P := True) 1 rfl rfl trivial ?_
    skip
    refine wp_call (b := false) (y' := 235) (as := [.ref 381]) (rest := []) (P := ((mxT 381).1 = mxRc 235 ∧ mxG hm)) rfl (by with_unfolding_all rfl) ⟨congrArg Prod.fst sT_381, Gm⟩ (Nat.le_of_ble_eq_true rfl) (mx_wp.mono (fun o2 h2 q => ?_) (wp_dm (by decide : 500 ≤ 999) (wp_L (by decide +kernel) Gm (wp_S1 (post hm hmd)))))
    obtain ⟨ql, s2, b, rfl, an, bd, g2⟩ := q
    obtain ⟨et, el⟩ := hk b _ an
    have G2 := GS_G g2
    show mx_wp 1000 346 130 [some (.ref 1), some (.ref 100), some (.ref 381), some (.ref 391), some (.int (nI i)), some (.int kk), w6] [.int b] h2 Qf
    refine wp_steps (i' := 132) (ls' := [some (.ref 1), some (.ref 100), some (.ref 381), some (.ref 391), some (.int (nI i)), some (.int kk), some (.int b)]) (st' := [.ref 381]) (h' := h2) (P := True) 2 rfl rfl trivial ?_
    refine wp_call (b := false) (y' := 190) (as := [.ref 381]) (rest := []) (P := ((mxT 381).1 = mxRc 190 ∧ mxG h2)) rfl (by with_unfolding_all rfl) ⟨congrArg Prod.fst sT_381, G2⟩ (Nat.le_of_ble_eq_true rfl) (tr_190_0 G2 ?_)
    show mx_wp 1000 346 133 [some (.ref 1), some (.ref 100), some (.ref 381), some (.ref 391), some (.int (nI i)), some (.int kk), some (.int b)] [.int (mx_i h2 381 0)] h2 Qf
    rw [et]
    refine wp_steps (i' := 134) (ls' := [some (.ref 1), some (.ref 100), some (.ref 381), some (.ref 391), some (.int (nI i)), some (.int kk), some (.int b)]) (st' := [.int kk, .int kk]) (h' := h2) (P := True) 1 rfl rfl trivial ?_
    refine wp_br (P := True) (c := kk = kk) (t := 137) (st' := []) rfl rfl trivial (fun _ => ?_) (fun c => absurd rfl c)
    refine wp_steps (i' := 138) (ls' := [some (.ref 1), some (.ref 100), some (.ref 381), some (.ref 391), some (.int (nI i)), some (.int kk), some (.int b)]) (st' := [.int kk]) (h' := h2) (P := True) 1 rfl rfl trivial ?_
    refine wp_br (P := True) (c := ¬ kk = 0) (t := 148) (st' := []) rfl rfl trivial (fun _ => ?_) (fun c => ?_)
    · refine wp_J (j := 1565) (st' := []) rfl rfl ?_
      exact K h2 _ _ g2 bd (sc1_tr s1 (sc1_tr (sc1_mdl hmd) s2))
    · have c0 := el (Decidable.of_not_not c)
      rw [← ql] at c0
      refine wp_steps (i' := 145) (ls' := [some (.ref 1), some (.ref 100), some (.ref 381), some (.ref 391), some (.int (nI i)), some (.int kk), some (.int b)]) (st' := [.int (lg_cmp (mx_l h2 391 0) b.toInt64)]) (h' := h2) (P := (((mxT 391).1 = 52 ∧ mxG h2) ∧ vp_in 0 (mxT 391).2) ∧ True) 6 rfl rfl ⟨cA sT_391 G2 (vpl rfl), trivial⟩ ?_
      refine wp_br (P := True) (c := lg_cmp (mx_l h2 391 0) b.toInt64 = 0) (t := 148) (st' := []) rfl rfl trivial (fun _ => ?_) (fun c => absurd c0 c)
      refine wp_J (j := 1565) (st' := []) rfl rfl ?_
      exact K h2 _ _ g2 bd (sc1_tr s1 (sc1_tr (sc1_mdl hmd) s2))
  refine wp_steps (i' := 126) (ls' := [some (.ref 1), some (.ref 100), some (.ref 381), some (.ref 391), some (.int (nI i)), w5, w6]) (st' := [.ref 391, .ref 100]) (h' := h) (P := True) 2 rfl rfl trivial ?_
  refine wp_call (b := false) (y' := 315) (as := [.ref 100, .ref 391]) (rest := []) (P := True) rfl (by with_unfolding_all rfl) trivial (Nat.le_of_ble_eq_true rfl) (wr_315 G (mx_wp.mono (fun o h1 q => ?_) (wp_dm (by decide : 500 ≤ 998) (wp_S1 (wp_G (by decide +kernel) G (O  h vn vd vr vq np ns nl I fc))))))
  obtain ⟨s1, G1, post⟩ := q
  obtain ⟨n0, o20, h20, e0, b0, eb0, an0, r0⟩ := post h1 mdl_rfl
  refine ⟨G1, ?_⟩
  rcases ans_cases an0 with ⟨v, rfl, -, -⟩ | ⟨kx, rfl, -, q⟩
  · show mx_wp 1000 346 127 [some (.ref 1), some (.ref 100), some (.ref 381), some (.ref 391), some (.int (nI i)), w5, w6] [.int 0] (mx_wl h1 391 0 v.toInt64) Qf
    refine step _ h1 _ 0 G1 s1 post mdl_wl (fun b t a => ⟨a.1, fun _ => ?_⟩)
    have hvb : v = b := a.2
    rw [wl_at, hvb]; exact lgc _
  · refine ⟨code kx, hcs kx q, ?_⟩
    show mx_wp 1000 346 127 [some (.ref 1), some (.ref 100), some (.ref 381), some (.ref 391), some (.int (nI i)), w5, w6] [.int (code kx)] h1 Qf
    exact step _ h1 _ _ G1 s1 post mdl_rfl (fun b t a => ⟨a.1, fun e => absurd e q⟩)
set_option maxRecDepth 8000 in
theorem cs_4 {LW : mxLW} {h : mxH} {i L : Nat} {w5 w6 : Option Value} {Qf : mxO → mxH → Prop} {code : Nat → Int32} (O : Op LW 136 236 [] code) (hcode : ∀ k, code k = 0) (g : GS LW h) (hL : mx_r h 1 0 = L) (hi : i + 6 ≤ L) (hL2 : L ≤ 3072) (K : ∀ (h2 : mxH) (w5 w6 : Option Value), GS LW h2 → bud h h2 → sc1 h h2 → mx_wp 1000 346 1565 [some (.ref 1), some (.ref 100), some (.ref 381), some (.ref 391), some (.int (nI i)), w5, w6] [] h2 Qf) : mx_wp 1000 346 149 [some (.ref 1), some (.ref 100), some (.ref 381), some (.ref 391), some (.int (nI i)), w5, w6] [] h Qf := by
  have G := GS_G g
  obtain ⟨vn, vd, vr, vq, np, ns, nl, I⟩ := g
  refine wp_steps (i' := 150) (ls' := [some (.ref 1), some (.ref 100), some (.ref 381), some (.ref 391), some (.int (nI i)), w5, w6]) (st' := [.ref 100]) (h' := h) (P := True) 1 rfl rfl trivial ?_
  refine wp_call (b := false) (y' := 136) (as := [.ref 100]) (rest := []) (P := ((mxT 100).1 = mxRc 136 ∧ mxG h)) rfl (by with_unfolding_all rfl) ⟨congrArg Prod.fst sT_100, G⟩ (Nat.le_of_ble_eq_true rfl) (mx_wp.mono (fun o h1 q => ?_) (wp_dm (by decide : 500 ≤ 999) (wp_S1 (wp_G (by decide +kernel) G (O  h vn vd vr vq np ns nl I)))))
  obtain ⟨s1, G1, post⟩ := q
  obtain ⟨n0, o20, h20, e0, b0, eb0, an0, r0⟩ := post h1 mdl_rfl
  rcases ans_cases an0 with ⟨v, rfl, -, -⟩ | ⟨kx, -, -, q⟩
  rotate_left
  · exact absurd (hcode kx) q
  show mx_wp 1000 346 151 [some (.ref 1), some (.ref 100), some (.ref 381), some (.ref 391), some (.int (nI i)), w5, w6] [.int v] h1 Qf
  have hL1 : mx_r h1 1 0 = L := by rw [s1.2.1]; exact hL
  have sch : mx_i h1 1 = mx_i h 1 := s1.1
  refine wp_steps (i' := 152) (ls' := [some (.ref 1), some (.ref 100), some (.ref 381), some (.ref 391), some (.int (nI i)), w5, w6]) (st' := [.ref 381, .int v]) (h' := h1) (P := True) 1 rfl rfl trivial ?_
  skip
  refine wp_call (b := false) (y' := 236) (as := [.ref 381]) (rest := [.int v]) (P := ((mxT 381).1 = mxRc 236 ∧ mxG h1)) rfl (by with_unfolding_all rfl) ⟨congrArg Prod.fst sT_381, G1⟩ (Nat.le_of_ble_eq_true rfl) (mx_wp.mono (fun o h2 q => ?_) (wp_dm (by decide : 500 ≤ 999) (wp_S1 (post h1 mdl_rfl))))
  obtain ⟨s2, b, rfl, an, bd, g2⟩ := q
  have evb : v = b := an.2
  show mx_wp 1000 346 153 [some (.ref 1), some (.ref 100), some (.ref 381), some (.ref 391), some (.int (nI i)), w5, w6] [.int b, .int v] h2 Qf
  refine wp_br (P := True) (c := v = b) (t := 1565) (st' := []) rfl rfl trivial (fun _ => ?_) (fun c => absurd evb c)
  exact K h2 _ _ g2 bd (sc1_tr s1 s2)
set_option maxRecDepth 8000 in
theorem cs_5 {LW : mxLW} {h : mxH} {i L : Nat} {w5 w6 : Option Value} {Qf : mxO → mxH → Prop} {code : Nat → Int32} (O : ∀ x0 x1 : Int32, Op LW 138 244 [.int x0, .int x1] code) (hcs : ∀ k, code k ≠ 0 → (k, code k) ∈ ([(2, 1), (3, 2)] : List (Nat × Int32))) (g : GS LW h) (hL : mx_r h 1 0 = L) (hi : i + 6 ≤ L) (hL2 : L ≤ 3072) (K : ∀ (h2 : mxH) (w5 w6 : Option Value), GS LW h2 → bud h h2 → sc1 h h2 → mx_wp 1000 346 1565 [some (.ref 1), some (.ref 100), some (.ref 381), some (.ref 391), some (.int (nI i)), w5, w6] [] h2 Qf) : mx_wp 1000 346 156 [some (.ref 1), some (.ref 100), some (.ref 381), some (.ref 391), some (.int (nI i)), w5, w6] [] h Qf := by
  have G := GS_G g
  obtain ⟨vn, vd, vr, vq, np, ns, nl, I⟩ := g
  have step : ∀ (o : mxO) (h1 hm : mxH) (kk : Int32), mxG h1 → sc1 h h1 → (∀ hm, mdl h1 hm → mx_wp 500 244 0 (mx_fr 244 [.ref 381, .int (mx_i h 1 (nI i + 1).toNatClampNeg), .int (mx_i h 1 (nI i + 2).toNatClampNeg)]) [] hm (fun o2 h2 => ∃ b, o2 = .inl (some (.int b)) ∧ ansOk code o b (mx_i h2 381 0) ∧ bud h h2 ∧ GS LW h2)) → mdl h1 hm → (∀ b t, ansOk code o b t → t = kk ∧ (kk = 0 → lg_cmp (mx_l hm 391 0) b.toInt64 = 0)) → mx_wp 1000 346 169 [some (.ref 1), some (.ref 100), some (.ref 381), some (.ref 391), some (.int (nI i)), w5, w6] [.int kk] hm Qf := by
    intro o h1 hm kk G1 s1 post hmd hk
    have sch : mx_i hm 1 = mx_i h 1 := by rw [hmd.2.2.2.1]; exact s1.1
    have hLm : mx_r hm 1 0 = L := by rw [hmd.2.2.2.2, s1.2.1]; exact hL
    have Gm : mxG hm := agr_G (P := fun _ => False) (agr_mdl hmd) G1
    refine wp_steps (i' := 170) (ls' := [some (.ref 1), some (.ref 100), some (.ref 381), some (.ref 391), some (.int (nI i)), some (.int kk), w6]) (st' := []) (h' := hm) (P := True) 1 rfl rfl trivial ?_
    refine wp_steps (i' := 181) (ls' := [some (.ref 1), some (.ref 100), some (.ref 381), some (.ref 391), some (.int (nI i)), some (.int kk), w6]) (st' := [.int (mx_i hm 1 (nI i + 2).toNatClampNeg), .int (mx_i hm 1 (nI i + 1).toNatClampNeg), .ref 381]) (h' := hm) (P := (1 = 1 ∧ vp_in (nI i + 1) (mx_r hm 1 0)) ∧ (1 = 1 ∧ vp_in (nI i + 2) (mx_r hm 1 0)) ∧ True) 11 rfl rfl ⟨⟨rfl, vpi hLm hi hL2 (j := 1) (by decide)⟩, ⟨rfl, vpi hLm hi hL2 (j := 2) (by decide)⟩, trivial⟩ ?_
    rw [sch]
    refine wp_call (b := false) (y' := 244) (as := [.ref 381, .int (mx_i h 1 (nI i + 1).toNatClampNeg), .int (mx_i h 1 (nI i + 2).toNatClampNeg)]) (rest := []) (P := ((mxT 381).1 = mxRc 244 ∧ mxG hm)) rfl (by with_unfolding_all rfl) ⟨congrArg Prod.fst sT_381, Gm⟩ (Nat.le_of_ble_eq_true rfl) (mx_wp.mono (fun o2 h2 q => ?_) (wp_dm (by decide : 500 ≤ 999) (wp_L (by decide +kernel) Gm (wp_S1 (post hm hmd)))))
    obtain ⟨ql, s2, b, rfl, an, bd, g2⟩ := q
    obtain ⟨et, el⟩ := hk b _ an
    have G2 := GS_G g2
    show mx_wp 1000 346 182 [some (.ref 1), some (.ref 100), some (.ref 381), some (.ref 391), some (.int (nI i)), some (.int kk), w6] [.int b] h2 Qf
    refine wp_steps (i' := 184) (ls' := [some (.ref 1), some (.ref 100), some (.ref 381), some (.ref 391), some (.int (nI i)), some (.int kk), some (.int b)]) (st' := [.ref 381]) (h' := h2) (P := True) 2 rfl rfl trivial ?_
    refine wp_call (b := false) (y' := 190) (as := [.ref 381]) (rest := []) (P := ((mxT 381).1 = mxRc 190 ∧ mxG h2)) rfl (by with_unfolding_all rfl) ⟨congrArg Prod.fst sT_381, G2⟩ (Nat.le_of_ble_eq_true rfl) (tr_190_0 G2 ?_)
    show mx_wp 1000 346 185 [some (.ref 1), some (.ref 100), some (.ref 381), some (.ref 391), some (.int (nI i)), some (.int kk), some (.int b)] [.int (mx_i h2 381 0)] h2 Qf
    rw [et]
    refine wp_steps (i' := 186) (ls' := [some (.ref 1), some (.ref 100), some (.ref 381), some (.ref 391), some (.int (nI i)), some (.int kk), some (.int b)]) (st' := [.int kk, .int kk]) (h' := h2) (P := True) 1 rfl rfl trivial ?_
    refine wp_br (P := True) (c := kk = kk) (t := 189) (st' := []) rfl rfl trivial (fun _ => ?_) (fun c => absurd rfl c)
    refine wp_steps (i' := 190) (ls' := [some (.ref 1), some (.ref 100), some (.ref 381), some (.ref 391), some (.int (nI i)), some (.int kk), some (.int b)]) (st' := [.int kk]) (h' := h2) (P := True) 1 rfl rfl trivial ?_
    refine wp_br (P := True) (c := ¬ kk = 0) (t := 200) (st' := []) rfl rfl trivial (fun _ => ?_) (fun c => ?_)
    · refine wp_J (j := 1565) (st' := []) rfl rfl ?_
      exact K h2 _ _ g2 bd (sc1_tr s1 (sc1_tr (sc1_mdl hmd) s2))
    · have c0 := el (Decidable.of_not_not c)
      rw [← ql] at c0
      refine wp_steps (i' := 197) (ls' := [some (.ref 1), some (.ref 100), some (.ref 381), some (.ref 391), some (.int (nI i)), some (.int kk), some (.int b)]) (st' := [.int (lg_cmp (mx_l h2 391 0) b.toInt64)]) (h' := h2) (P := (((mxT 391).1 = 52 ∧ mxG h2) ∧ vp_in 0 (mxT 391).2) ∧ True) 6 rfl rfl ⟨cA sT_391 G2 (vpl rfl), trivial⟩ ?_
      refine wp_br (P := True) (c := lg_cmp (mx_l h2 391 0) b.toInt64 = 0) (t := 200) (st' := []) rfl rfl trivial (fun _ => ?_) (fun c => absurd c0 c)
      refine wp_J (j := 1565) (st' := []) rfl rfl ?_
      exact K h2 _ _ g2 bd (sc1_tr s1 (sc1_tr (sc1_mdl hmd) s2))
  refine wp_steps (i' := 168) (ls' := [some (.ref 1), some (.ref 100), some (.ref 381), some (.ref 391), some (.int (nI i)), w5, w6]) (st' := [.ref 391, .int (mx_i h 1 (nI i + 2).toNatClampNeg), .int (mx_i h 1 (nI i + 1).toNatClampNeg), .ref 100]) (h' := h) (P := (1 = 1 ∧ vp_in (nI i + 1) (mx_r h 1 0)) ∧ (1 = 1 ∧ vp_in (nI i + 2) (mx_r h 1 0)) ∧ True) 12 rfl rfl ⟨⟨rfl, vpi hL hi hL2 (j := 1) (by decide)⟩, ⟨rfl, vpi hL hi hL2 (j := 2) (by decide)⟩, trivial⟩ ?_
  refine wp_call (b := false) (y' := 316) (as := [.ref 100, .int (mx_i h 1 (nI i + 1).toNatClampNeg), .int (mx_i h 1 (nI i + 2).toNatClampNeg), .ref 391]) (rest := []) (P := True) rfl (by with_unfolding_all rfl) trivial (Nat.le_of_ble_eq_true rfl) (wr_316 G (mx_wp.mono (fun o h1 q => ?_) (wp_dm (by decide : 500 ≤ 998) (wp_S1 (wp_G (by decide +kernel) G (O (mx_i h 1 (nI i + 1).toNatClampNeg) (mx_i h 1 (nI i + 2).toNatClampNeg) h vn vd vr vq np ns nl I))))))
  obtain ⟨s1, G1, post⟩ := q
  obtain ⟨n0, o20, h20, e0, b0, eb0, an0, r0⟩ := post h1 mdl_rfl
  refine ⟨G1, ?_⟩
  rcases ans_cases an0 with ⟨v, rfl, -, -⟩ | ⟨kx, rfl, -, q⟩
  · show mx_wp 1000 346 169 [some (.ref 1), some (.ref 100), some (.ref 381), some (.ref 391), some (.int (nI i)), w5, w6] [.int 0] (mx_wl h1 391 0 v.toInt64) Qf
    refine step _ h1 _ 0 G1 s1 post mdl_wl (fun b t a => ⟨a.1, fun _ => ?_⟩)
    have hvb : v = b := a.2
    rw [wl_at, hvb]; exact lgc _
  · refine ⟨code kx, hcs kx q, ?_⟩
    show mx_wp 1000 346 169 [some (.ref 1), some (.ref 100), some (.ref 381), some (.ref 391), some (.int (nI i)), w5, w6] [.int (code kx)] h1 Qf
    exact step _ h1 _ _ G1 s1 post mdl_rfl (fun b t a => ⟨a.1, fun e => absurd e q⟩)
set_option maxRecDepth 8000 in
theorem cs_6 {LW : mxLW} {h : mxH} {i L : Nat} {w5 w6 : Option Value} {Qf : mxO → mxH → Prop} {code : Nat → Int32} (O : ∀ x0 x1 : Int32, Op LW 139 245 [.int x0, .int x1] code) (hcs : ∀ k, code k ≠ 0 → (k, code k) ∈ ([(2, 1), (3, 2)] : List (Nat × Int32))) (g : GS LW h) (hL : mx_r h 1 0 = L) (hi : i + 6 ≤ L) (hL2 : L ≤ 3072) (K : ∀ (h2 : mxH) (w5 w6 : Option Value), GS LW h2 → bud h h2 → sc1 h h2 → mx_wp 1000 346 1565 [some (.ref 1), some (.ref 100), some (.ref 381), some (.ref 391), some (.int (nI i)), w5, w6] [] h2 Qf) : mx_wp 1000 346 201 [some (.ref 1), some (.ref 100), some (.ref 381), some (.ref 391), some (.int (nI i)), w5, w6] [] h Qf := by
  have G := GS_G g
  obtain ⟨vn, vd, vr, vq, np, ns, nl, I⟩ := g
  have step : ∀ (o : mxO) (h1 hm : mxH) (kk : Int32), mxG h1 → sc1 h h1 → (∀ hm, mdl h1 hm → mx_wp 500 245 0 (mx_fr 245 [.ref 381, .int (mx_i h 1 (nI i + 1).toNatClampNeg), .int (mx_i h 1 (nI i + 2).toNatClampNeg)]) [] hm (fun o2 h2 => ∃ b, o2 = .inl (some (.int b)) ∧ ansOk code o b (mx_i h2 381 0) ∧ bud h h2 ∧ GS LW h2)) → mdl h1 hm → (∀ b t, ansOk code o b t → t = kk ∧ (kk = 0 → lg_cmp (mx_l hm 391 0) b.toInt64 = 0)) → mx_wp 1000 346 214 [some (.ref 1), some (.ref 100), some (.ref 381), some (.ref 391), some (.int (nI i)), w5, w6] [.int kk] hm Qf := by
    intro o h1 hm kk G1 s1 post hmd hk
    have sch : mx_i hm 1 = mx_i h 1 := by rw [hmd.2.2.2.1]; exact s1.1
    have hLm : mx_r hm 1 0 = L := by rw [hmd.2.2.2.2, s1.2.1]; exact hL
    have Gm : mxG hm := agr_G (P := fun _ => False) (agr_mdl hmd) G1
    refine wp_steps (i' := 215) (ls' := [some (.ref 1), some (.ref 100), some (.ref 381), some (.ref 391), some (.int (nI i)), some (.int kk), w6]) (st' := []) (h' := hm) (P := True) 1 rfl rfl trivial ?_
    refine wp_steps (i' := 226) (ls' := [some (.ref 1), some (.ref 100), some (.ref 381), some (.ref 391), some (.int (nI i)), some (.int kk), w6]) (st' := [.int (mx_i hm 1 (nI i + 2).toNatClampNeg), .int (mx_i hm 1 (nI i + 1).toNatClampNeg), .ref 381]) (h' := hm) (P := (1 = 1 ∧ vp_in (nI i + 1) (mx_r hm 1 0)) ∧ (1 = 1 ∧ vp_in (nI i + 2) (mx_r hm 1 0)) ∧ True) 11 rfl rfl ⟨⟨rfl, vpi hLm hi hL2 (j := 1) (by decide)⟩, ⟨rfl, vpi hLm hi hL2 (j := 2) (by decide)⟩, trivial⟩ ?_
    rw [sch]
    refine wp_call (b := false) (y' := 245) (as := [.ref 381, .int (mx_i h 1 (nI i + 1).toNatClampNeg), .int (mx_i h 1 (nI i + 2).toNatClampNeg)]) (rest := []) (P := ((mxT 381).1 = mxRc 245 ∧ mxG hm)) rfl (by with_unfolding_all rfl) ⟨congrArg Prod.fst sT_381, Gm⟩ (Nat.le_of_ble_eq_true rfl) (mx_wp.mono (fun o2 h2 q => ?_) (wp_dm (by decide : 500 ≤ 999) (wp_L (by decide +kernel) Gm (wp_S1 (post hm hmd)))))
    obtain ⟨ql, s2, b, rfl, an, bd, g2⟩ := q
    obtain ⟨et, el⟩ := hk b _ an
    have G2 := GS_G g2
    show mx_wp 1000 346 227 [some (.ref 1), some (.ref 100), some (.ref 381), some (.ref 391), some (.int (nI i)), some (.int kk), w6] [.int b] h2 Qf
    refine wp_steps (i' := 229) (ls' := [some (.ref 1), some (.ref 100), some (.ref 381), some (.ref 391), some (.int (nI i)), some (.int kk), some (.int b)]) (st' := [.ref 381]) (h' := h2) (P := True) 2 rfl rfl trivial ?_
    refine wp_call (b := false) (y' := 190) (as := [.ref 381]) (rest := []) (P := ((mxT 381).1 = mxRc 190 ∧ mxG h2)) rfl (by with_unfolding_all rfl) ⟨congrArg Prod.fst sT_381, G2⟩ (Nat.le_of_ble_eq_true rfl) (tr_190_0 G2 ?_)
    show mx_wp 1000 346 230 [some (.ref 1), some (.ref 100), some (.ref 381), some (.ref 391), some (.int (nI i)), some (.int kk), some (.int b)] [.int (mx_i h2 381 0)] h2 Qf
    rw [et]
    refine wp_steps (i' := 231) (ls' := [some (.ref 1), some (.ref 100), some (.ref 381), some (.ref 391), some (.int (nI i)), some (.int kk), some (.int b)]) (st' := [.int kk, .int kk]) (h' := h2) (P := True) 1 rfl rfl trivial ?_
    refine wp_br (P := True) (c := kk = kk) (t := 234) (st' := []) rfl rfl trivial (fun _ => ?_) (fun c => absurd rfl c)
    refine wp_steps (i' := 235) (ls' := [some (.ref 1), some (.ref 100), some (.ref 381), some (.ref 391), some (.int (nI i)), some (.int kk), some (.int b)]) (st' := [.int kk]) (h' := h2) (P := True) 1 rfl rfl trivial ?_
    refine wp_br (P := True) (c := ¬ kk = 0) (t := 245) (st' := []) rfl rfl trivial (fun _ => ?_) (fun c => ?_)
    · refine wp_J (j := 1565) (st' := []) rfl rfl ?_
      exact K h2 _ _ g2 bd (sc1_tr s1 (sc1_tr (sc1_mdl hmd) s2))
    · have c0 := el (Decidable.of_not_not c)
      rw [← ql] at c0
      refine wp_steps (i' := 242) (ls' := [some (.ref 1), some (.ref 100), some (.ref 381), some (.ref 391), some (.int (nI i)), some (.int kk), some (.int b)]) (st' := [.int (lg_cmp (mx_l h2 391 0) b.toInt64)]) (h' := h2) (P := (((mxT 391).1 = 52 ∧ mxG h2) ∧ vp_in 0 (mxT 391).2) ∧ True) 6 rfl rfl ⟨cA sT_391 G2 (vpl rfl), trivial⟩ ?_
      refine wp_br (P := True) (c := lg_cmp (mx_l h2 391 0) b.toInt64 = 0) (t := 245) (st' := []) rfl rfl trivial (fun _ => ?_) (fun c => absurd c0 c)
      refine wp_J (j := 1565) (st' := []) rfl rfl ?_
      exact K h2 _ _ g2 bd (sc1_tr s1 (sc1_tr (sc1_mdl hmd) s2))
  refine wp_steps (i' := 213) (ls' := [some (.ref 1), some (.ref 100), some (.ref 381), some (.ref 391), some (.int (nI i)), w5, w6]) (st' := [.ref 391, .int (mx_i h 1 (nI i + 2).toNatClampNeg), .int (mx_i h 1 (nI i + 1).toNatClampNeg), .ref 100]) (h' := h) (P := (1 = 1 ∧ vp_in (nI i + 1) (mx_r h 1 0)) ∧ (1 = 1 ∧ vp_in (nI i + 2) (mx_r h 1 0)) ∧ True) 12 rfl rfl ⟨⟨rfl, vpi hL hi hL2 (j := 1) (by decide)⟩, ⟨rfl, vpi hL hi hL2 (j := 2) (by decide)⟩, trivial⟩ ?_
  refine wp_call (b := false) (y' := 317) (as := [.ref 100, .int (mx_i h 1 (nI i + 1).toNatClampNeg), .int (mx_i h 1 (nI i + 2).toNatClampNeg), .ref 391]) (rest := []) (P := True) rfl (by with_unfolding_all rfl) trivial (Nat.le_of_ble_eq_true rfl) (wr_317 G (mx_wp.mono (fun o h1 q => ?_) (wp_dm (by decide : 500 ≤ 998) (wp_S1 (wp_G (by decide +kernel) G (O (mx_i h 1 (nI i + 1).toNatClampNeg) (mx_i h 1 (nI i + 2).toNatClampNeg) h vn vd vr vq np ns nl I))))))
  obtain ⟨s1, G1, post⟩ := q
  obtain ⟨n0, o20, h20, e0, b0, eb0, an0, r0⟩ := post h1 mdl_rfl
  refine ⟨G1, ?_⟩
  rcases ans_cases an0 with ⟨v, rfl, -, -⟩ | ⟨kx, rfl, -, q⟩
  · show mx_wp 1000 346 214 [some (.ref 1), some (.ref 100), some (.ref 381), some (.ref 391), some (.int (nI i)), w5, w6] [.int 0] (mx_wl h1 391 0 v.toInt64) Qf
    refine step _ h1 _ 0 G1 s1 post mdl_wl (fun b t a => ⟨a.1, fun _ => ?_⟩)
    have hvb : v = b := a.2
    rw [wl_at, hvb]; exact lgc _
  · refine ⟨code kx, hcs kx q, ?_⟩
    show mx_wp 1000 346 214 [some (.ref 1), some (.ref 100), some (.ref 381), some (.ref 391), some (.int (nI i)), w5, w6] [.int (code kx)] h1 Qf
    exact step _ h1 _ _ G1 s1 post mdl_rfl (fun b t a => ⟨a.1, fun e => absurd e q⟩)
set_option maxRecDepth 8000 in
theorem cs_7 {LW : mxLW} {h : mxH} {i L : Nat} {w5 w6 : Option Value} {Qf : mxO → mxH → Prop} {code : Nat → Int32} (O : ∀ x0 x1 : Int32, Op LW 140 246 [.int x0, .int x1] code) (hcs : ∀ k, code k ≠ 0 → (k, code k) ∈ ([(2, 1), (3, 2)] : List (Nat × Int32))) (g : GS LW h) (hL : mx_r h 1 0 = L) (hi : i + 6 ≤ L) (hL2 : L ≤ 3072) (K : ∀ (h2 : mxH) (w5 w6 : Option Value), GS LW h2 → bud h h2 → sc1 h h2 → mx_wp 1000 346 1565 [some (.ref 1), some (.ref 100), some (.ref 381), some (.ref 391), some (.int (nI i)), w5, w6] [] h2 Qf) : mx_wp 1000 346 246 [some (.ref 1), some (.ref 100), some (.ref 381), some (.ref 391), some (.int (nI i)), w5, w6] [] h Qf := by
  have G := GS_G g
  obtain ⟨vn, vd, vr, vq, np, ns, nl, I⟩ := g
  have step : ∀ (o : mxO) (h1 hm : mxH) (kk : Int32), mxG h1 → sc1 h h1 → (∀ hm, mdl h1 hm → mx_wp 500 246 0 (mx_fr 246 [.ref 381, .int (mx_i h 1 (nI i + 1).toNatClampNeg), .int (mx_i h 1 (nI i + 2).toNatClampNeg)]) [] hm (fun o2 h2 => ∃ b, o2 = .inl (some (.int b)) ∧ ansOk code o b (mx_i h2 381 0) ∧ bud h h2 ∧ GS LW h2)) → mdl h1 hm → (∀ b t, ansOk code o b t → t = kk ∧ (kk = 0 → lg_cmp (mx_l hm 391 0) b.toInt64 = 0)) → mx_wp 1000 346 259 [some (.ref 1), some (.ref 100), some (.ref 381), some (.ref 391), some (.int (nI i)), w5, w6] [.int kk] hm Qf := by
    intro o h1 hm kk G1 s1 post hmd hk
    have sch : mx_i hm 1 = mx_i h 1 := by rw [hmd.2.2.2.1]; exact s1.1
    have hLm : mx_r hm 1 0 = L := by rw [hmd.2.2.2.2, s1.2.1]; exact hL
    have Gm : mxG hm := agr_G (P := fun _ => False) (agr_mdl hmd) G1
    refine wp_steps (i' := 260) (ls' := [some (.ref 1), some (.ref 100), some (.ref 381), some (.ref 391), some (.int (nI i)), some (.int kk), w6]) (st' := []) (h' := hm) (P := True) 1 rfl rfl trivial ?_
    refine wp_steps (i' := 271) (ls' := [some (.ref 1), some (.ref 100), some (.ref 381), some (.ref 391), some (.int (nI i)), some (.int kk), w6]) (st' := [.int (mx_i hm 1 (nI i + 2).toNatClampNeg), .int (mx_i hm 1 (nI i + 1).toNatClampNeg), .ref 381]) (h' := hm) (P := (1 = 1 ∧ vp_in (nI i + 1) (mx_r hm 1 0)) ∧ (1 = 1 ∧ vp_in (nI i + 2) (mx_r hm 1 0)) ∧ True) 11 rfl rfl ⟨⟨rfl, vpi hLm hi hL2 (j := 1) (by decide)⟩, ⟨rfl, vpi hLm hi hL2 (j := 2) (by decide)⟩, trivial⟩ ?_
    rw [sch]
    refine wp_call (b := false) (y' := 246) (as := [.ref 381, .int (mx_i h 1 (nI i + 1).toNatClampNeg), .int (mx_i h 1 (nI i + 2).toNatClampNeg)]) (rest := []) (P := ((mxT 381).1 = mxRc 246 ∧ mxG hm)) rfl (by with_unfolding_all rfl) ⟨congrArg Prod.fst sT_381, Gm⟩ (Nat.le_of_ble_eq_true rfl) (mx_wp.mono (fun o2 h2 q => ?_) (wp_dm (by decide : 500 ≤ 999) (wp_L (by decide +kernel) Gm (wp_S1 (post hm hmd)))))
    obtain ⟨ql, s2, b, rfl, an, bd, g2⟩ := q
    obtain ⟨et, el⟩ := hk b _ an
    have G2 := GS_G g2
    show mx_wp 1000 346 272 [some (.ref 1), some (.ref 100), some (.ref 381), some (.ref 391), some (.int (nI i)), some (.int kk), w6] [.int b] h2 Qf
    refine wp_steps (i' := 274) (ls' := [some (.ref 1), some (.ref 100), some (.ref 381), some (.ref 391), some (.int (nI i)), some (.int kk), some (.int b)]) (st' := [.ref 381]) (h' := h2) (P := True) 2 rfl rfl trivial ?_
    refine wp_call (b := false) (y' := 190) (as := [.ref 381]) (rest := []) (P := ((mxT 381).1 = mxRc 190 ∧ mxG h2)) rfl (by with_unfolding_all rfl) ⟨congrArg Prod.fst sT_381, G2⟩ (Nat.le_of_ble_eq_true rfl) (tr_190_0 G2 ?_)
    show mx_wp 1000 346 275 [some (.ref 1), some (.ref 100), some (.ref 381), some (.ref 391), some (.int (nI i)), some (.int kk), some (.int b)] [.int (mx_i h2 381 0)] h2 Qf
    rw [et]
    refine wp_steps (i' := 276) (ls' := [some (.ref 1), some (.ref 100), some (.ref 381), some (.ref 391), some (.int (nI i)), some (.int kk), some (.int b)]) (st' := [.int kk, .int kk]) (h' := h2) (P := True) 1 rfl rfl trivial ?_
    refine wp_br (P := True) (c := kk = kk) (t := 279) (st' := []) rfl rfl trivial (fun _ => ?_) (fun c => absurd rfl c)
    refine wp_steps (i' := 280) (ls' := [some (.ref 1), some (.ref 100), some (.ref 381), some (.ref 391), some (.int (nI i)), some (.int kk), some (.int b)]) (st' := [.int kk]) (h' := h2) (P := True) 1 rfl rfl trivial ?_
    refine wp_br (P := True) (c := ¬ kk = 0) (t := 290) (st' := []) rfl rfl trivial (fun _ => ?_) (fun c => ?_)
    · refine wp_J (j := 1565) (st' := []) rfl rfl ?_
      exact K h2 _ _ g2 bd (sc1_tr s1 (sc1_tr (sc1_mdl hmd) s2))
    · have c0 := el (Decidable.of_not_not c)
      rw [← ql] at c0
      refine wp_steps (i' := 287) (ls' := [some (.ref 1), some (.ref 100), some (.ref 381), some (.ref 391), some (.int (nI i)), some (.int kk), some (.int b)]) (st' := [.int (lg_cmp (mx_l h2 391 0) b.toInt64)]) (h' := h2) (P := (((mxT 391).1 = 52 ∧ mxG h2) ∧ vp_in 0 (mxT 391).2) ∧ True) 6 rfl rfl ⟨cA sT_391 G2 (vpl rfl), trivial⟩ ?_
      refine wp_br (P := True) (c := lg_cmp (mx_l h2 391 0) b.toInt64 = 0) (t := 290) (st' := []) rfl rfl trivial (fun _ => ?_) (fun c => absurd c0 c)
      refine wp_J (j := 1565) (st' := []) rfl rfl ?_
      exact K h2 _ _ g2 bd (sc1_tr s1 (sc1_tr (sc1_mdl hmd) s2))
  refine wp_steps (i' := 258) (ls' := [some (.ref 1), some (.ref 100), some (.ref 381), some (.ref 391), some (.int (nI i)), w5, w6]) (st' := [.ref 391, .int (mx_i h 1 (nI i + 2).toNatClampNeg), .int (mx_i h 1 (nI i + 1).toNatClampNeg), .ref 100]) (h' := h) (P := (1 = 1 ∧ vp_in (nI i + 1) (mx_r h 1 0)) ∧ (1 = 1 ∧ vp_in (nI i + 2) (mx_r h 1 0)) ∧ True) 12 rfl rfl ⟨⟨rfl, vpi hL hi hL2 (j := 1) (by decide)⟩, ⟨rfl, vpi hL hi hL2 (j := 2) (by decide)⟩, trivial⟩ ?_
  refine wp_call (b := false) (y' := 318) (as := [.ref 100, .int (mx_i h 1 (nI i + 1).toNatClampNeg), .int (mx_i h 1 (nI i + 2).toNatClampNeg), .ref 391]) (rest := []) (P := True) rfl (by with_unfolding_all rfl) trivial (Nat.le_of_ble_eq_true rfl) (wr_318 G (mx_wp.mono (fun o h1 q => ?_) (wp_dm (by decide : 500 ≤ 998) (wp_S1 (wp_G (by decide +kernel) G (O (mx_i h 1 (nI i + 1).toNatClampNeg) (mx_i h 1 (nI i + 2).toNatClampNeg) h vn vd vr vq np ns nl I))))))
  obtain ⟨s1, G1, post⟩ := q
  obtain ⟨n0, o20, h20, e0, b0, eb0, an0, r0⟩ := post h1 mdl_rfl
  refine ⟨G1, ?_⟩
  rcases ans_cases an0 with ⟨v, rfl, -, -⟩ | ⟨kx, rfl, -, q⟩
  · show mx_wp 1000 346 259 [some (.ref 1), some (.ref 100), some (.ref 381), some (.ref 391), some (.int (nI i)), w5, w6] [.int 0] (mx_wl h1 391 0 v.toInt64) Qf
    refine step _ h1 _ 0 G1 s1 post mdl_wl (fun b t a => ⟨a.1, fun _ => ?_⟩)
    have hvb : v = b := a.2
    rw [wl_at, hvb]; exact lgc _
  · refine ⟨code kx, hcs kx q, ?_⟩
    show mx_wp 1000 346 259 [some (.ref 1), some (.ref 100), some (.ref 381), some (.ref 391), some (.int (nI i)), w5, w6] [.int (code kx)] h1 Qf
    exact step _ h1 _ _ G1 s1 post mdl_rfl (fun b t a => ⟨a.1, fun e => absurd e q⟩)
set_option maxRecDepth 8000 in
theorem cs_8 {LW : mxLW} {h : mxH} {i L : Nat} {w5 w6 : Option Value} {Qf : mxO → mxH → Prop} {code : Nat → Int32} (O : ∀ x0 x1 : Int32, Op LW 141 249 [.int x0, .int x1] code) (hcs : ∀ k, code k ≠ 0 → (k, code k) ∈ ([(2, 1), (3, 2)] : List (Nat × Int32))) (g : GS LW h) (hL : mx_r h 1 0 = L) (hi : i + 6 ≤ L) (hL2 : L ≤ 3072) (K : ∀ (h2 : mxH) (w5 w6 : Option Value), GS LW h2 → bud h h2 → sc1 h h2 → mx_wp 1000 346 1565 [some (.ref 1), some (.ref 100), some (.ref 381), some (.ref 391), some (.int (nI i)), w5, w6] [] h2 Qf) : mx_wp 1000 346 291 [some (.ref 1), some (.ref 100), some (.ref 381), some (.ref 391), some (.int (nI i)), w5, w6] [] h Qf := by
  have G := GS_G g
  obtain ⟨vn, vd, vr, vq, np, ns, nl, I⟩ := g
  have step : ∀ (o : mxO) (h1 hm : mxH) (kk : Int32), mxG h1 → sc1 h h1 → (∀ hm, mdl h1 hm → mx_wp 500 249 0 (mx_fr 249 [.ref 381, .int (mx_i h 1 (nI i + 1).toNatClampNeg), .int (mx_i h 1 (nI i + 2).toNatClampNeg)]) [] hm (fun o2 h2 => ∃ b, o2 = .inl (some (.int b)) ∧ ansOk code o b (mx_i h2 381 0) ∧ bud h h2 ∧ GS LW h2)) → mdl h1 hm → (∀ b t, ansOk code o b t → t = kk ∧ (kk = 0 → lg_cmp (mx_l hm 391 0) b.toInt64 = 0)) → mx_wp 1000 346 304 [some (.ref 1), some (.ref 100), some (.ref 381), some (.ref 391), some (.int (nI i)), w5, w6] [.int kk] hm Qf := by
    intro o h1 hm kk G1 s1 post hmd hk
    have sch : mx_i hm 1 = mx_i h 1 := by rw [hmd.2.2.2.1]; exact s1.1
    have hLm : mx_r hm 1 0 = L := by rw [hmd.2.2.2.2, s1.2.1]; exact hL
    have Gm : mxG hm := agr_G (P := fun _ => False) (agr_mdl hmd) G1
    refine wp_steps (i' := 305) (ls' := [some (.ref 1), some (.ref 100), some (.ref 381), some (.ref 391), some (.int (nI i)), some (.int kk), w6]) (st' := []) (h' := hm) (P := True) 1 rfl rfl trivial ?_
    refine wp_steps (i' := 316) (ls' := [some (.ref 1), some (.ref 100), some (.ref 381), some (.ref 391), some (.int (nI i)), some (.int kk), w6]) (st' := [.int (mx_i hm 1 (nI i + 2).toNatClampNeg), .int (mx_i hm 1 (nI i + 1).toNatClampNeg), .ref 381]) (h' := hm) (P := (1 = 1 ∧ vp_in (nI i + 1) (mx_r hm 1 0)) ∧ (1 = 1 ∧ vp_in (nI i + 2) (mx_r hm 1 0)) ∧ True) 11 rfl rfl ⟨⟨rfl, vpi hLm hi hL2 (j := 1) (by decide)⟩, ⟨rfl, vpi hLm hi hL2 (j := 2) (by decide)⟩, trivial⟩ ?_
    rw [sch]
    refine wp_call (b := false) (y' := 249) (as := [.ref 381, .int (mx_i h 1 (nI i + 1).toNatClampNeg), .int (mx_i h 1 (nI i + 2).toNatClampNeg)]) (rest := []) (P := ((mxT 381).1 = mxRc 249 ∧ mxG hm)) rfl (by with_unfolding_all rfl) ⟨congrArg Prod.fst sT_381, Gm⟩ (Nat.le_of_ble_eq_true rfl) (mx_wp.mono (fun o2 h2 q => ?_) (wp_dm (by decide : 500 ≤ 999) (wp_L (by decide +kernel) Gm (wp_S1 (post hm hmd)))))
    obtain ⟨ql, s2, b, rfl, an, bd, g2⟩ := q
    obtain ⟨et, el⟩ := hk b _ an
    have G2 := GS_G g2
    show mx_wp 1000 346 317 [some (.ref 1), some (.ref 100), some (.ref 381), some (.ref 391), some (.int (nI i)), some (.int kk), w6] [.int b] h2 Qf
    refine wp_steps (i' := 319) (ls' := [some (.ref 1), some (.ref 100), some (.ref 381), some (.ref 391), some (.int (nI i)), some (.int kk), some (.int b)]) (st' := [.ref 381]) (h' := h2) (P := True) 2 rfl rfl trivial ?_
    refine wp_call (b := false) (y' := 190) (as := [.ref 381]) (rest := []) (P := ((mxT 381).1 = mxRc 190 ∧ mxG h2)) rfl (by with_unfolding_all rfl) ⟨congrArg Prod.fst sT_381, G2⟩ (Nat.le_of_ble_eq_true rfl) (tr_190_0 G2 ?_)
    show mx_wp 1000 346 320 [some (.ref 1), some (.ref 100), some (.ref 381), some (.ref 391), some (.int (nI i)), some (.int kk), some (.int b)] [.int (mx_i h2 381 0)] h2 Qf
    rw [et]
    refine wp_steps (i' := 321) (ls' := [some (.ref 1), some (.ref 100), some (.ref 381), some (.ref 391), some (.int (nI i)), some (.int kk), some (.int b)]) (st' := [.int kk, .int kk]) (h' := h2) (P := True) 1 rfl rfl trivial ?_
    refine wp_br (P := True) (c := kk = kk) (t := 324) (st' := []) rfl rfl trivial (fun _ => ?_) (fun c => absurd rfl c)
    refine wp_steps (i' := 325) (ls' := [some (.ref 1), some (.ref 100), some (.ref 381), some (.ref 391), some (.int (nI i)), some (.int kk), some (.int b)]) (st' := [.int kk]) (h' := h2) (P := True) 1 rfl rfl trivial ?_
    refine wp_br (P := True) (c := ¬ kk = 0) (t := 335) (st' := []) rfl rfl trivial (fun _ => ?_) (fun c => ?_)
    · refine wp_J (j := 1565) (st' := []) rfl rfl ?_
      exact K h2 _ _ g2 bd (sc1_tr s1 (sc1_tr (sc1_mdl hmd) s2))
    · have c0 := el (Decidable.of_not_not c)
      rw [← ql] at c0
      refine wp_steps (i' := 332) (ls' := [some (.ref 1), some (.ref 100), some (.ref 381), some (.ref 391), some (.int (nI i)), some (.int kk), some (.int b)]) (st' := [.int (lg_cmp (mx_l h2 391 0) b.toInt64)]) (h' := h2) (P := (((mxT 391).1 = 52 ∧ mxG h2) ∧ vp_in 0 (mxT 391).2) ∧ True) 6 rfl rfl ⟨cA sT_391 G2 (vpl rfl), trivial⟩ ?_
      refine wp_br (P := True) (c := lg_cmp (mx_l h2 391 0) b.toInt64 = 0) (t := 335) (st' := []) rfl rfl trivial (fun _ => ?_) (fun c => absurd c0 c)
      refine wp_J (j := 1565) (st' := []) rfl rfl ?_
      exact K h2 _ _ g2 bd (sc1_tr s1 (sc1_tr (sc1_mdl hmd) s2))
  refine wp_steps (i' := 303) (ls' := [some (.ref 1), some (.ref 100), some (.ref 381), some (.ref 391), some (.int (nI i)), w5, w6]) (st' := [.ref 391, .int (mx_i h 1 (nI i + 2).toNatClampNeg), .int (mx_i h 1 (nI i + 1).toNatClampNeg), .ref 100]) (h' := h) (P := (1 = 1 ∧ vp_in (nI i + 1) (mx_r h 1 0)) ∧ (1 = 1 ∧ vp_in (nI i + 2) (mx_r h 1 0)) ∧ True) 12 rfl rfl ⟨⟨rfl, vpi hL hi hL2 (j := 1) (by decide)⟩, ⟨rfl, vpi hL hi hL2 (j := 2) (by decide)⟩, trivial⟩ ?_
  refine wp_call (b := false) (y' := 319) (as := [.ref 100, .int (mx_i h 1 (nI i + 1).toNatClampNeg), .int (mx_i h 1 (nI i + 2).toNatClampNeg), .ref 391]) (rest := []) (P := True) rfl (by with_unfolding_all rfl) trivial (Nat.le_of_ble_eq_true rfl) (wr_319 G (mx_wp.mono (fun o h1 q => ?_) (wp_dm (by decide : 500 ≤ 998) (wp_S1 (wp_G (by decide +kernel) G (O (mx_i h 1 (nI i + 1).toNatClampNeg) (mx_i h 1 (nI i + 2).toNatClampNeg) h vn vd vr vq np ns nl I))))))
  obtain ⟨s1, G1, post⟩ := q
  obtain ⟨n0, o20, h20, e0, b0, eb0, an0, r0⟩ := post h1 mdl_rfl
  refine ⟨G1, ?_⟩
  rcases ans_cases an0 with ⟨v, rfl, -, -⟩ | ⟨kx, rfl, -, q⟩
  · show mx_wp 1000 346 304 [some (.ref 1), some (.ref 100), some (.ref 381), some (.ref 391), some (.int (nI i)), w5, w6] [.int 0] (mx_wl h1 391 0 v.toInt64) Qf
    refine step _ h1 _ 0 G1 s1 post mdl_wl (fun b t a => ⟨a.1, fun _ => ?_⟩)
    have hvb : v = b := a.2
    rw [wl_at, hvb]; exact lgc _
  · refine ⟨code kx, hcs kx q, ?_⟩
    show mx_wp 1000 346 304 [some (.ref 1), some (.ref 100), some (.ref 381), some (.ref 391), some (.int (nI i)), w5, w6] [.int (code kx)] h1 Qf
    exact step _ h1 _ _ G1 s1 post mdl_rfl (fun b t a => ⟨a.1, fun e => absurd e q⟩)
set_option maxRecDepth 8000 in
theorem cs_9 {LW : mxLW} {h : mxH} {i L : Nat} {w5 w6 : Option Value} {Qf : mxO → mxH → Prop} {code : Nat → Int32} (O : ∀ x0 x1 x2 : Int32, Op LW 143 253 [.int x0, .int x1, .int x2] code) (hcs : ∀ k, code k ≠ 0 → (k, code k) ∈ ([(2, 1), (0, 2), (4, 3)] : List (Nat × Int32))) (g : GS LW h) (hL : mx_r h 1 0 = L) (hi : i + 6 ≤ L) (hL2 : L ≤ 3072) (K : ∀ (h2 : mxH) (w5 w6 : Option Value), GS LW h2 → bud h h2 → sc1 h h2 → mx_wp 1000 346 1565 [some (.ref 1), some (.ref 100), some (.ref 381), some (.ref 391), some (.int (nI i)), w5, w6] [] h2 Qf) : mx_wp 1000 346 336 [some (.ref 1), some (.ref 100), some (.ref 381), some (.ref 391), some (.int (nI i)), w5, w6] [] h Qf := by
  have G := GS_G g
  obtain ⟨vn, vd, vr, vq, np, ns, nl, I⟩ := g
  have step : ∀ (o : mxO) (h1 hm : mxH) (kk : Int32), mxG h1 → sc1 h h1 → (∀ hm, mdl h1 hm → mx_wp 500 253 0 (mx_fr 253 [.ref 381, .int (mx_i h 1 (nI i + 1).toNatClampNeg), .int (mx_i h 1 (nI i + 2).toNatClampNeg), .int (mx_i h 1 (nI i + 3).toNatClampNeg)]) [] hm (fun o2 h2 => ∃ b, o2 = .inl (some (.int b)) ∧ ansOk code o b (mx_i h2 381 0) ∧ bud h h2 ∧ GS LW h2)) → mdl h1 hm → (∀ b t, ansOk code o b t → t = kk ∧ (kk = 0 → lg_cmp (mx_l hm 391 0) b.toInt64 = 0)) → mx_wp 1000 346 354 [some (.ref 1), some (.ref 100), some (.ref 381), some (.ref 391), some (.int (nI i)), w5, w6] [.int kk] hm Qf := by
    intro o h1 hm kk G1 s1 post hmd hk
    have sch : mx_i hm 1 = mx_i h 1 := by rw [hmd.2.2.2.1]; exact s1.1
    have hLm : mx_r hm 1 0 = L := by rw [hmd.2.2.2.2, s1.2.1]; exact hL
    have Gm : mxG hm := agr_G (P := fun _ => False) (agr_mdl hmd) G1
    refine wp_steps (i' := 355) (ls' := [some (.ref 1), some (.ref 100), some (.ref 381), some (.ref 391), some (.int (nI i)), some (.int kk), w6]) (st' := []) (h' := hm) (P := True) 1 rfl rfl trivial ?_
    refine wp_steps (i' := 371) (ls' := [some (.ref 1), some (.ref 100), some (.ref 381), some (.ref 391), some (.int (nI i)), some (.int kk), w6]) (st' := [.int (mx_i hm 1 (nI i + 3).toNatClampNeg), .int (mx_i hm 1 (nI i + 2).toNatClampNeg), .int (mx_i hm 1 (nI i + 1).toNatClampNeg), .ref 381]) (h' := hm) (P := (1 = 1 ∧ vp_in (nI i + 1) (mx_r hm 1 0)) ∧ (1 = 1 ∧ vp_in (nI i + 2) (mx_r hm 1 0)) ∧ (1 = 1 ∧ vp_in (nI i + 3) (mx_r hm 1 0)) ∧ True) 16 rfl rfl ⟨⟨rfl, vpi hLm hi hL2 (j := 1) (by decide)⟩, ⟨rfl, vpi hLm hi hL2 (j := 2) (by decide)⟩, ⟨rfl, vpi hLm hi hL2 (j := 3) (by decide)⟩, trivial⟩ ?_
    rw [sch]
    refine wp_call (b := false) (y' := 253) (as := [.ref 381, .int (mx_i h 1 (nI i + 1).toNatClampNeg), .int (mx_i h 1 (nI i + 2).toNatClampNeg), .int (mx_i h 1 (nI i + 3).toNatClampNeg)]) (rest := []) (P := ((mxT 381).1 = mxRc 253 ∧ mxG hm)) rfl (by with_unfolding_all rfl) ⟨congrArg Prod.fst sT_381, Gm⟩ (Nat.le_of_ble_eq_true rfl) (mx_wp.mono (fun o2 h2 q => ?_) (wp_dm (by decide : 500 ≤ 999) (wp_L (by decide +kernel) Gm (wp_S1 (post hm hmd)))))
    obtain ⟨ql, s2, b, rfl, an, bd, g2⟩ := q
    obtain ⟨et, el⟩ := hk b _ an
    have G2 := GS_G g2
    show mx_wp 1000 346 372 [some (.ref 1), some (.ref 100), some (.ref 381), some (.ref 391), some (.int (nI i)), some (.int kk), w6] [.int b] h2 Qf
    refine wp_steps (i' := 374) (ls' := [some (.ref 1), some (.ref 100), some (.ref 381), some (.ref 391), some (.int (nI i)), some (.int kk), some (.int b)]) (st' := [.ref 381]) (h' := h2) (P := True) 2 rfl rfl trivial ?_
    refine wp_call (b := false) (y' := 190) (as := [.ref 381]) (rest := []) (P := ((mxT 381).1 = mxRc 190 ∧ mxG h2)) rfl (by with_unfolding_all rfl) ⟨congrArg Prod.fst sT_381, G2⟩ (Nat.le_of_ble_eq_true rfl) (tr_190_0 G2 ?_)
    show mx_wp 1000 346 375 [some (.ref 1), some (.ref 100), some (.ref 381), some (.ref 391), some (.int (nI i)), some (.int kk), some (.int b)] [.int (mx_i h2 381 0)] h2 Qf
    rw [et]
    refine wp_steps (i' := 376) (ls' := [some (.ref 1), some (.ref 100), some (.ref 381), some (.ref 391), some (.int (nI i)), some (.int kk), some (.int b)]) (st' := [.int kk, .int kk]) (h' := h2) (P := True) 1 rfl rfl trivial ?_
    refine wp_br (P := True) (c := kk = kk) (t := 379) (st' := []) rfl rfl trivial (fun _ => ?_) (fun c => absurd rfl c)
    refine wp_steps (i' := 380) (ls' := [some (.ref 1), some (.ref 100), some (.ref 381), some (.ref 391), some (.int (nI i)), some (.int kk), some (.int b)]) (st' := [.int kk]) (h' := h2) (P := True) 1 rfl rfl trivial ?_
    refine wp_br (P := True) (c := ¬ kk = 0) (t := 390) (st' := []) rfl rfl trivial (fun _ => ?_) (fun c => ?_)
    · refine wp_J (j := 1565) (st' := []) rfl rfl ?_
      exact K h2 _ _ g2 bd (sc1_tr s1 (sc1_tr (sc1_mdl hmd) s2))
    · have c0 := el (Decidable.of_not_not c)
      rw [← ql] at c0
      refine wp_steps (i' := 387) (ls' := [some (.ref 1), some (.ref 100), some (.ref 381), some (.ref 391), some (.int (nI i)), some (.int kk), some (.int b)]) (st' := [.int (lg_cmp (mx_l h2 391 0) b.toInt64)]) (h' := h2) (P := (((mxT 391).1 = 52 ∧ mxG h2) ∧ vp_in 0 (mxT 391).2) ∧ True) 6 rfl rfl ⟨cA sT_391 G2 (vpl rfl), trivial⟩ ?_
      refine wp_br (P := True) (c := lg_cmp (mx_l h2 391 0) b.toInt64 = 0) (t := 390) (st' := []) rfl rfl trivial (fun _ => ?_) (fun c => absurd c0 c)
      refine wp_J (j := 1565) (st' := []) rfl rfl ?_
      exact K h2 _ _ g2 bd (sc1_tr s1 (sc1_tr (sc1_mdl hmd) s2))
  refine wp_steps (i' := 353) (ls' := [some (.ref 1), some (.ref 100), some (.ref 381), some (.ref 391), some (.int (nI i)), w5, w6]) (st' := [.ref 391, .int (mx_i h 1 (nI i + 3).toNatClampNeg), .int (mx_i h 1 (nI i + 2).toNatClampNeg), .int (mx_i h 1 (nI i + 1).toNatClampNeg), .ref 100]) (h' := h) (P := (1 = 1 ∧ vp_in (nI i + 1) (mx_r h 1 0)) ∧ (1 = 1 ∧ vp_in (nI i + 2) (mx_r h 1 0)) ∧ (1 = 1 ∧ vp_in (nI i + 3) (mx_r h 1 0)) ∧ True) 17 rfl rfl ⟨⟨rfl, vpi hL hi hL2 (j := 1) (by decide)⟩, ⟨rfl, vpi hL hi hL2 (j := 2) (by decide)⟩, ⟨rfl, vpi hL hi hL2 (j := 3) (by decide)⟩, trivial⟩ ?_
  refine wp_call (b := false) (y' := 320) (as := [.ref 100, .int (mx_i h 1 (nI i + 1).toNatClampNeg), .int (mx_i h 1 (nI i + 2).toNatClampNeg), .int (mx_i h 1 (nI i + 3).toNatClampNeg), .ref 391]) (rest := []) (P := True) rfl (by with_unfolding_all rfl) trivial (Nat.le_of_ble_eq_true rfl) (wr_320 G (mx_wp.mono (fun o h1 q => ?_) (wp_dm (by decide : 500 ≤ 998) (wp_S1 (wp_G (by decide +kernel) G (O (mx_i h 1 (nI i + 1).toNatClampNeg) (mx_i h 1 (nI i + 2).toNatClampNeg) (mx_i h 1 (nI i + 3).toNatClampNeg) h vn vd vr vq np ns nl I))))))
  obtain ⟨s1, G1, post⟩ := q
  obtain ⟨n0, o20, h20, e0, b0, eb0, an0, r0⟩ := post h1 mdl_rfl
  refine ⟨G1, ?_⟩
  rcases ans_cases an0 with ⟨v, rfl, -, -⟩ | ⟨kx, rfl, -, q⟩
  · show mx_wp 1000 346 354 [some (.ref 1), some (.ref 100), some (.ref 381), some (.ref 391), some (.int (nI i)), w5, w6] [.int 0] (mx_wl h1 391 0 v.toInt64) Qf
    refine step _ h1 _ 0 G1 s1 post mdl_wl (fun b t a => ⟨a.1, fun _ => ?_⟩)
    have hvb : v = b := a.2
    rw [wl_at, hvb]; exact lgc _
  · refine ⟨code kx, hcs kx q, ?_⟩
    show mx_wp 1000 346 354 [some (.ref 1), some (.ref 100), some (.ref 381), some (.ref 391), some (.int (nI i)), w5, w6] [.int (code kx)] h1 Qf
    exact step _ h1 _ _ G1 s1 post mdl_rfl (fun b t a => ⟨a.1, fun e => absurd e q⟩)
set_option maxRecDepth 8000 in
theorem cs_10 {LW : mxLW} {h : mxH} {i L : Nat} {w5 w6 : Option Value} {Qf : mxO → mxH → Prop} {code : Nat → Int32} (O : ∀ x0 : Int32, Op LW 144 254 [.int x0] code) (hcs : ∀ k, code k ≠ 0 → (k, code k) ∈ ([(2, 1), (4, 2)] : List (Nat × Int32))) (g : GS LW h) (hL : mx_r h 1 0 = L) (hi : i + 6 ≤ L) (hL2 : L ≤ 3072) (K : ∀ (h2 : mxH) (w5 w6 : Option Value), GS LW h2 → bud h h2 → sc1 h h2 → mx_wp 1000 346 1565 [some (.ref 1), some (.ref 100), some (.ref 381), some (.ref 391), some (.int (nI i)), w5, w6] [] h2 Qf) : mx_wp 1000 346 391 [some (.ref 1), some (.ref 100), some (.ref 381), some (.ref 391), some (.int (nI i)), w5, w6] [] h Qf := by
  have G := GS_G g
  obtain ⟨vn, vd, vr, vq, np, ns, nl, I⟩ := g
  have step : ∀ (o : mxO) (h1 hm : mxH) (kk : Int32), mxG h1 → sc1 h h1 → (∀ hm, mdl h1 hm → mx_wp 500 254 0 (mx_fr 254 [.ref 381, .int (mx_i h 1 (nI i + 1).toNatClampNeg)]) [] hm (fun o2 h2 => ∃ b, o2 = .inl (some (.int b)) ∧ ansOk code o b (mx_i h2 381 0) ∧ bud h h2 ∧ GS LW h2)) → mdl h1 hm → (∀ b t, ansOk code o b t → t = kk ∧ (kk = 0 → lg_cmp (mx_l hm 391 0) b.toInt64 = 0)) → mx_wp 1000 346 399 [some (.ref 1), some (.ref 100), some (.ref 381), some (.ref 391), some (.int (nI i)), w5, w6] [.int kk] hm Qf := by
    intro o h1 hm kk G1 s1 post hmd hk
    have sch : mx_i hm 1 = mx_i h 1 := by rw [hmd.2.2.2.1]; exact s1.1
    have hLm : mx_r hm 1 0 = L := by rw [hmd.2.2.2.2, s1.2.1]; exact hL
    have Gm : mxG hm := agr_G (P := fun _ => False) (agr_mdl hmd) G1
    refine wp_steps (i' := 400) (ls' := [some (.ref 1), some (.ref 100), some (.ref 381), some (.ref 391), some (.int (nI i)), some (.int kk), w6]) (st' := []) (h' := hm) (P := True) 1 rfl rfl trivial ?_
    refine wp_steps (i' := 406) (ls' := [some (.ref 1), some (.ref 100), some (.ref 381), some (.ref 391), some (.int (nI i)), some (.int kk), w6]) (st' := [.int (mx_i hm 1 (nI i + 1).toNatClampNeg), .ref 381]) (h' := hm) (P := (1 = 1 ∧ vp_in (nI i + 1) (mx_r hm 1 0)) ∧ True) 6 rfl rfl ⟨⟨rfl, vpi hLm hi hL2 (j := 1) (by decide)⟩, trivial⟩ ?_
    rw [sch]
    refine wp_call (b := false) (y' := 254) (as := [.ref 381, .int (mx_i h 1 (nI i + 1).toNatClampNeg)]) (rest := []) (P := ((mxT 381).1 = mxRc 254 ∧ mxG hm)) rfl (by with_unfolding_all rfl) ⟨congrArg Prod.fst sT_381, Gm⟩ (Nat.le_of_ble_eq_true rfl) (mx_wp.mono (fun o2 h2 q => ?_) (wp_dm (by decide : 500 ≤ 999) (wp_L (by decide +kernel) Gm (wp_S1 (post hm hmd)))))
    obtain ⟨ql, s2, b, rfl, an, bd, g2⟩ := q
    obtain ⟨et, el⟩ := hk b _ an
    have G2 := GS_G g2
    show mx_wp 1000 346 407 [some (.ref 1), some (.ref 100), some (.ref 381), some (.ref 391), some (.int (nI i)), some (.int kk), w6] [.int b] h2 Qf
    refine wp_steps (i' := 409) (ls' := [some (.ref 1), some (.ref 100), some (.ref 381), some (.ref 391), some (.int (nI i)), some (.int kk), some (.int b)]) (st' := [.ref 381]) (h' := h2) (P := True) 2 rfl rfl trivial ?_
    refine wp_call (b := false) (y' := 190) (as := [.ref 381]) (rest := []) (P := ((mxT 381).1 = mxRc 190 ∧ mxG h2)) rfl (by with_unfolding_all rfl) ⟨congrArg Prod.fst sT_381, G2⟩ (Nat.le_of_ble_eq_true rfl) (tr_190_0 G2 ?_)
    show mx_wp 1000 346 410 [some (.ref 1), some (.ref 100), some (.ref 381), some (.ref 391), some (.int (nI i)), some (.int kk), some (.int b)] [.int (mx_i h2 381 0)] h2 Qf
    rw [et]
    refine wp_steps (i' := 411) (ls' := [some (.ref 1), some (.ref 100), some (.ref 381), some (.ref 391), some (.int (nI i)), some (.int kk), some (.int b)]) (st' := [.int kk, .int kk]) (h' := h2) (P := True) 1 rfl rfl trivial ?_
    refine wp_br (P := True) (c := kk = kk) (t := 414) (st' := []) rfl rfl trivial (fun _ => ?_) (fun c => absurd rfl c)
    refine wp_steps (i' := 415) (ls' := [some (.ref 1), some (.ref 100), some (.ref 381), some (.ref 391), some (.int (nI i)), some (.int kk), some (.int b)]) (st' := [.int kk]) (h' := h2) (P := True) 1 rfl rfl trivial ?_
    refine wp_br (P := True) (c := ¬ kk = 0) (t := 425) (st' := []) rfl rfl trivial (fun _ => ?_) (fun c => ?_)
    · refine wp_J (j := 1565) (st' := []) rfl rfl ?_
      exact K h2 _ _ g2 bd (sc1_tr s1 (sc1_tr (sc1_mdl hmd) s2))
    · have c0 := el (Decidable.of_not_not c)
      rw [← ql] at c0
      refine wp_steps (i' := 422) (ls' := [some (.ref 1), some (.ref 100), some (.ref 381), some (.ref 391), some (.int (nI i)), some (.int kk), some (.int b)]) (st' := [.int (lg_cmp (mx_l h2 391 0) b.toInt64)]) (h' := h2) (P := (((mxT 391).1 = 52 ∧ mxG h2) ∧ vp_in 0 (mxT 391).2) ∧ True) 6 rfl rfl ⟨cA sT_391 G2 (vpl rfl), trivial⟩ ?_
      refine wp_br (P := True) (c := lg_cmp (mx_l h2 391 0) b.toInt64 = 0) (t := 425) (st' := []) rfl rfl trivial (fun _ => ?_) (fun c => absurd c0 c)
      refine wp_J (j := 1565) (st' := []) rfl rfl ?_
      exact K h2 _ _ g2 bd (sc1_tr s1 (sc1_tr (sc1_mdl hmd) s2))
  refine wp_steps (i' := 398) (ls' := [some (.ref 1), some (.ref 100), some (.ref 381), some (.ref 391), some (.int (nI i)), w5, w6]) (st' := [.ref 391, .int (mx_i h 1 (nI i + 1).toNatClampNeg), .ref 100]) (h' := h) (P := (1 = 1 ∧ vp_in (nI i + 1) (mx_r h 1 0)) ∧ True) 7 rfl rfl ⟨⟨rfl, vpi hL hi hL2 (j := 1) (by decide)⟩, trivial⟩ ?_
  refine wp_call (b := false) (y' := 321) (as := [.ref 100, .int (mx_i h 1 (nI i + 1).toNatClampNeg), .ref 391]) (rest := []) (P := True) rfl (by with_unfolding_all rfl) trivial (Nat.le_of_ble_eq_true rfl) (wr_321 G (mx_wp.mono (fun o h1 q => ?_) (wp_dm (by decide : 500 ≤ 998) (wp_S1 (wp_G (by decide +kernel) G (O (mx_i h 1 (nI i + 1).toNatClampNeg) h vn vd vr vq np ns nl I))))))
  obtain ⟨s1, G1, post⟩ := q
  obtain ⟨n0, o20, h20, e0, b0, eb0, an0, r0⟩ := post h1 mdl_rfl
  refine ⟨G1, ?_⟩
  rcases ans_cases an0 with ⟨v, rfl, -, -⟩ | ⟨kx, rfl, -, q⟩
  · show mx_wp 1000 346 399 [some (.ref 1), some (.ref 100), some (.ref 381), some (.ref 391), some (.int (nI i)), w5, w6] [.int 0] (mx_wl h1 391 0 v.toInt64) Qf
    refine step _ h1 _ 0 G1 s1 post mdl_wl (fun b t a => ⟨a.1, fun _ => ?_⟩)
    have hvb : v = b := a.2
    rw [wl_at, hvb]; exact lgc _
  · refine ⟨code kx, hcs kx q, ?_⟩
    show mx_wp 1000 346 399 [some (.ref 1), some (.ref 100), some (.ref 381), some (.ref 391), some (.int (nI i)), w5, w6] [.int (code kx)] h1 Qf
    exact step _ h1 _ _ G1 s1 post mdl_rfl (fun b t a => ⟨a.1, fun e => absurd e q⟩)
set_option maxRecDepth 8000 in
theorem cs_11 {LW : mxLW} {h : mxH} {i L : Nat} {w5 w6 : Option Value} {Qf : mxO → mxH → Prop} {code : Nat → Int32} (O : ∀ x0 : Int32, Op LW 145 255 [.int x0] code) (hcs : ∀ k, code k ≠ 0 → (k, code k) ∈ ([(2, 1), (4, 2)] : List (Nat × Int32))) (g : GS LW h) (hL : mx_r h 1 0 = L) (hi : i + 6 ≤ L) (hL2 : L ≤ 3072) (K : ∀ (h2 : mxH) (w5 w6 : Option Value), GS LW h2 → bud h h2 → sc1 h h2 → mx_wp 1000 346 1565 [some (.ref 1), some (.ref 100), some (.ref 381), some (.ref 391), some (.int (nI i)), w5, w6] [] h2 Qf) : mx_wp 1000 346 426 [some (.ref 1), some (.ref 100), some (.ref 381), some (.ref 391), some (.int (nI i)), w5, w6] [] h Qf := by
  have G := GS_G g
  obtain ⟨vn, vd, vr, vq, np, ns, nl, I⟩ := g
  have step : ∀ (o : mxO) (h1 hm : mxH) (kk : Int32), mxG h1 → sc1 h h1 → (∀ hm, mdl h1 hm → mx_wp 500 255 0 (mx_fr 255 [.ref 381, .int (mx_i h 1 (nI i + 1).toNatClampNeg)]) [] hm (fun o2 h2 => ∃ b, o2 = .inl (some (.int b)) ∧ ansOk code o b (mx_i h2 381 0) ∧ bud h h2 ∧ GS LW h2)) → mdl h1 hm → (∀ b t, ansOk code o b t → t = kk ∧ (kk = 0 → lg_cmp (mx_l hm 391 0) b.toInt64 = 0)) → mx_wp 1000 346 434 [some (.ref 1), some (.ref 100), some (.ref 381), some (.ref 391), some (.int (nI i)), w5, w6] [.int kk] hm Qf := by
    intro o h1 hm kk G1 s1 post hmd hk
    have sch : mx_i hm 1 = mx_i h 1 := by rw [hmd.2.2.2.1]; exact s1.1
    have hLm : mx_r hm 1 0 = L := by rw [hmd.2.2.2.2, s1.2.1]; exact hL
    have Gm : mxG hm := agr_G (P := fun _ => False) (agr_mdl hmd) G1
    refine wp_steps (i' := 435) (ls' := [some (.ref 1), some (.ref 100), some (.ref 381), some (.ref 391), some (.int (nI i)), some (.int kk), w6]) (st' := []) (h' := hm) (P := True) 1 rfl rfl trivial ?_
    refine wp_steps (i' := 441) (ls' := [some (.ref 1), some (.ref 100), some (.ref 381), some (.ref 391), some (.int (nI i)), some (.int kk), w6]) (st' := [.int (mx_i hm 1 (nI i + 1).toNatClampNeg), .ref 381]) (h' := hm) (P := (1 = 1 ∧ vp_in (nI i + 1) (mx_r hm 1 0)) ∧ True) 6 rfl rfl ⟨⟨rfl, vpi hLm hi hL2 (j := 1) (by decide)⟩, trivial⟩ ?_
    rw [sch]
    refine wp_call (b := false) (y' := 255) (as := [.ref 381, .int (mx_i h 1 (nI i + 1).toNatClampNeg)]) (rest := []) (P := ((mxT 381).1 = mxRc 255 ∧ mxG hm)) rfl (by with_unfolding_all rfl) ⟨congrArg Prod.fst sT_381, Gm⟩ (Nat.le_of_ble_eq_true rfl) (mx_wp.mono (fun o2 h2 q => ?_) (wp_dm (by decide : 500 ≤ 999) (wp_L (by decide +kernel) Gm (wp_S1 (post hm hmd)))))
    obtain ⟨ql, s2, b, rfl, an, bd, g2⟩ := q
    obtain ⟨et, el⟩ := hk b _ an
    have G2 := GS_G g2
    show mx_wp 1000 346 442 [some (.ref 1), some (.ref 100), some (.ref 381), some (.ref 391), some (.int (nI i)), some (.int kk), w6] [.int b] h2 Qf
    refine wp_steps (i' := 444) (ls' := [some (.ref 1), some (.ref 100), some (.ref 381), some (.ref 391), some (.int (nI i)), some (.int kk), some (.int b)]) (st' := [.ref 381]) (h' := h2) (P := True) 2 rfl rfl trivial ?_
    refine wp_call (b := false) (y' := 190) (as := [.ref 381]) (rest := []) (P := ((mxT 381).1 = mxRc 190 ∧ mxG h2)) rfl (by with_unfolding_all rfl) ⟨congrArg Prod.fst sT_381, G2⟩ (Nat.le_of_ble_eq_true rfl) (tr_190_0 G2 ?_)
    show mx_wp 1000 346 445 [some (.ref 1), some (.ref 100), some (.ref 381), some (.ref 391), some (.int (nI i)), some (.int kk), some (.int b)] [.int (mx_i h2 381 0)] h2 Qf
    rw [et]
    refine wp_steps (i' := 446) (ls' := [some (.ref 1), some (.ref 100), some (.ref 381), some (.ref 391), some (.int (nI i)), some (.int kk), some (.int b)]) (st' := [.int kk, .int kk]) (h' := h2) (P := True) 1 rfl rfl trivial ?_
    refine wp_br (P := True) (c := kk = kk) (t := 449) (st' := []) rfl rfl trivial (fun _ => ?_) (fun c => absurd rfl c)
    refine wp_steps (i' := 450) (ls' := [some (.ref 1), some (.ref 100), some (.ref 381), some (.ref 391), some (.int (nI i)), some (.int kk), some (.int b)]) (st' := [.int kk]) (h' := h2) (P := True) 1 rfl rfl trivial ?_
    refine wp_br (P := True) (c := ¬ kk = 0) (t := 460) (st' := []) rfl rfl trivial (fun _ => ?_) (fun c => ?_)
    · refine wp_J (j := 1565) (st' := []) rfl rfl ?_
      exact K h2 _ _ g2 bd (sc1_tr s1 (sc1_tr (sc1_mdl hmd) s2))
    · have c0 := el (Decidable.of_not_not c)
      rw [← ql] at c0
      refine wp_steps (i' := 457) (ls' := [some (.ref 1), some (.ref 100), some (.ref 381), some (.ref 391), some (.int (nI i)), some (.int kk), some (.int b)]) (st' := [.int (lg_cmp (mx_l h2 391 0) b.toInt64)]) (h' := h2) (P := (((mxT 391).1 = 52 ∧ mxG h2) ∧ vp_in 0 (mxT 391).2) ∧ True) 6 rfl rfl ⟨cA sT_391 G2 (vpl rfl), trivial⟩ ?_
      refine wp_br (P := True) (c := lg_cmp (mx_l h2 391 0) b.toInt64 = 0) (t := 460) (st' := []) rfl rfl trivial (fun _ => ?_) (fun c => absurd c0 c)
      refine wp_J (j := 1565) (st' := []) rfl rfl ?_
      exact K h2 _ _ g2 bd (sc1_tr s1 (sc1_tr (sc1_mdl hmd) s2))
  refine wp_steps (i' := 433) (ls' := [some (.ref 1), some (.ref 100), some (.ref 381), some (.ref 391), some (.int (nI i)), w5, w6]) (st' := [.ref 391, .int (mx_i h 1 (nI i + 1).toNatClampNeg), .ref 100]) (h' := h) (P := (1 = 1 ∧ vp_in (nI i + 1) (mx_r h 1 0)) ∧ True) 7 rfl rfl ⟨⟨rfl, vpi hL hi hL2 (j := 1) (by decide)⟩, trivial⟩ ?_
  refine wp_call (b := false) (y' := 322) (as := [.ref 100, .int (mx_i h 1 (nI i + 1).toNatClampNeg), .ref 391]) (rest := []) (P := True) rfl (by with_unfolding_all rfl) trivial (Nat.le_of_ble_eq_true rfl) (wr_322 G (mx_wp.mono (fun o h1 q => ?_) (wp_dm (by decide : 500 ≤ 998) (wp_S1 (wp_G (by decide +kernel) G (O (mx_i h 1 (nI i + 1).toNatClampNeg) h vn vd vr vq np ns nl I))))))
  obtain ⟨s1, G1, post⟩ := q
  obtain ⟨n0, o20, h20, e0, b0, eb0, an0, r0⟩ := post h1 mdl_rfl
  refine ⟨G1, ?_⟩
  rcases ans_cases an0 with ⟨v, rfl, -, -⟩ | ⟨kx, rfl, -, q⟩
  · show mx_wp 1000 346 434 [some (.ref 1), some (.ref 100), some (.ref 381), some (.ref 391), some (.int (nI i)), w5, w6] [.int 0] (mx_wl h1 391 0 v.toInt64) Qf
    refine step _ h1 _ 0 G1 s1 post mdl_wl (fun b t a => ⟨a.1, fun _ => ?_⟩)
    have hvb : v = b := a.2
    rw [wl_at, hvb]; exact lgc _
  · refine ⟨code kx, hcs kx q, ?_⟩
    show mx_wp 1000 346 434 [some (.ref 1), some (.ref 100), some (.ref 381), some (.ref 391), some (.int (nI i)), w5, w6] [.int (code kx)] h1 Qf
    exact step _ h1 _ _ G1 s1 post mdl_rfl (fun b t a => ⟨a.1, fun e => absurd e q⟩)
set_option maxRecDepth 8000 in
theorem cs_12 {LW : mxLW} {h : mxH} {i L : Nat} {w5 w6 : Option Value} {Qf : mxO → mxH → Prop} {code : Nat → Int32} (O : ∀ x0 x1 : Int32, Op LW 146 256 [.int x0, .int x1] code) (hcs : ∀ k, code k ≠ 0 → (k, code k) ∈ ([(2, 1), (0, 2), (4, 3)] : List (Nat × Int32))) (g : GS LW h) (hL : mx_r h 1 0 = L) (hi : i + 6 ≤ L) (hL2 : L ≤ 3072) (K : ∀ (h2 : mxH) (w5 w6 : Option Value), GS LW h2 → bud h h2 → sc1 h h2 → mx_wp 1000 346 1565 [some (.ref 1), some (.ref 100), some (.ref 381), some (.ref 391), some (.int (nI i)), w5, w6] [] h2 Qf) : mx_wp 1000 346 461 [some (.ref 1), some (.ref 100), some (.ref 381), some (.ref 391), some (.int (nI i)), w5, w6] [] h Qf := by
  have G := GS_G g
  obtain ⟨vn, vd, vr, vq, np, ns, nl, I⟩ := g
  have step : ∀ (o : mxO) (h1 hm : mxH) (kk : Int32), mxG h1 → sc1 h h1 → (∀ hm, mdl h1 hm → mx_wp 500 256 0 (mx_fr 256 [.ref 381, .int (mx_i h 1 (nI i + 1).toNatClampNeg), .int (mx_i h 1 (nI i + 2).toNatClampNeg)]) [] hm (fun o2 h2 => ∃ b, o2 = .inl (some (.int b)) ∧ ansOk code o b (mx_i h2 381 0) ∧ bud h h2 ∧ GS LW h2)) → mdl h1 hm → (∀ b t, ansOk code o b t → t = kk ∧ (kk = 0 → lg_cmp (mx_l hm 391 0) b.toInt64 = 0)) → mx_wp 1000 346 474 [some (.ref 1), some (.ref 100), some (.ref 381), some (.ref 391), some (.int (nI i)), w5, w6] [.int kk] hm Qf := by
    intro o h1 hm kk G1 s1 post hmd hk
    have sch : mx_i hm 1 = mx_i h 1 := by rw [hmd.2.2.2.1]; exact s1.1
    have hLm : mx_r hm 1 0 = L := by rw [hmd.2.2.2.2, s1.2.1]; exact hL
    have Gm : mxG hm := agr_G (P := fun _ => False) (agr_mdl hmd) G1
    refine wp_steps (i' := 475) (ls' := [some (.ref 1), some (.ref 100), some (.ref 381), some (.ref 391), some (.int (nI i)), some (.int kk), w6]) (st' := []) (h' := hm) (P := True) 1 rfl rfl trivial ?_
    refine wp_steps (i' := 486) (ls' := [some (.ref 1), some (.ref 100), some (.ref 381), some (.ref 391), some (.int (nI i)), some (.int kk), w6]) (st' := [.int (mx_i hm 1 (nI i + 2).toNatClampNeg), .int (mx_i hm 1 (nI i + 1).toNatClampNeg), .ref 381]) (h' := hm) (P := (1 = 1 ∧ vp_in (nI i + 1) (mx_r hm 1 0)) ∧ (1 = 1 ∧ vp_in (nI i + 2) (mx_r hm 1 0)) ∧ True) 11 rfl rfl ⟨⟨rfl, vpi hLm hi hL2 (j := 1) (by decide)⟩, ⟨rfl, vpi hLm hi hL2 (j := 2) (by decide)⟩, trivial⟩ ?_
    rw [sch]
    refine wp_call (b := false) (y' := 256) (as := [.ref 381, .int (mx_i h 1 (nI i + 1).toNatClampNeg), .int (mx_i h 1 (nI i + 2).toNatClampNeg)]) (rest := []) (P := ((mxT 381).1 = mxRc 256 ∧ mxG hm)) rfl (by with_unfolding_all rfl) ⟨congrArg Prod.fst sT_381, Gm⟩ (Nat.le_of_ble_eq_true rfl) (mx_wp.mono (fun o2 h2 q => ?_) (wp_dm (by decide : 500 ≤ 999) (wp_L (by decide +kernel) Gm (wp_S1 (post hm hmd)))))
    obtain ⟨ql, s2, b, rfl, an, bd, g2⟩ := q
    obtain ⟨et, el⟩ := hk b _ an
    have G2 := GS_G g2
    show mx_wp 1000 346 487 [some (.ref 1), some (.ref 100), some (.ref 381), some (.ref 391), some (.int (nI i)), some (.int kk), w6] [.int b] h2 Qf
    refine wp_steps (i' := 489) (ls' := [some (.ref 1), some (.ref 100), some (.ref 381), some (.ref 391), some (.int (nI i)), some (.int kk), some (.int b)]) (st' := [.ref 381]) (h' := h2) (P := True) 2 rfl rfl trivial ?_
    refine wp_call (b := false) (y' := 190) (as := [.ref 381]) (rest := []) (P := ((mxT 381).1 = mxRc 190 ∧ mxG h2)) rfl (by with_unfolding_all rfl) ⟨congrArg Prod.fst sT_381, G2⟩ (Nat.le_of_ble_eq_true rfl) (tr_190_0 G2 ?_)
    show mx_wp 1000 346 490 [some (.ref 1), some (.ref 100), some (.ref 381), some (.ref 391), some (.int (nI i)), some (.int kk), some (.int b)] [.int (mx_i h2 381 0)] h2 Qf
    rw [et]
    refine wp_steps (i' := 491) (ls' := [some (.ref 1), some (.ref 100), some (.ref 381), some (.ref 391), some (.int (nI i)), some (.int kk), some (.int b)]) (st' := [.int kk, .int kk]) (h' := h2) (P := True) 1 rfl rfl trivial ?_
    refine wp_br (P := True) (c := kk = kk) (t := 494) (st' := []) rfl rfl trivial (fun _ => ?_) (fun c => absurd rfl c)
    refine wp_steps (i' := 495) (ls' := [some (.ref 1), some (.ref 100), some (.ref 381), some (.ref 391), some (.int (nI i)), some (.int kk), some (.int b)]) (st' := [.int kk]) (h' := h2) (P := True) 1 rfl rfl trivial ?_
    refine wp_br (P := True) (c := ¬ kk = 0) (t := 505) (st' := []) rfl rfl trivial (fun _ => ?_) (fun c => ?_)
    · refine wp_J (j := 1565) (st' := []) rfl rfl ?_
      exact K h2 _ _ g2 bd (sc1_tr s1 (sc1_tr (sc1_mdl hmd) s2))
    · have c0 := el (Decidable.of_not_not c)
      rw [← ql] at c0
      refine wp_steps (i' := 502) (ls' := [some (.ref 1), some (.ref 100), some (.ref 381), some (.ref 391), some (.int (nI i)), some (.int kk), some (.int b)]) (st' := [.int (lg_cmp (mx_l h2 391 0) b.toInt64)]) (h' := h2) (P := (((mxT 391).1 = 52 ∧ mxG h2) ∧ vp_in 0 (mxT 391).2) ∧ True) 6 rfl rfl ⟨cA sT_391 G2 (vpl rfl), trivial⟩ ?_
      refine wp_br (P := True) (c := lg_cmp (mx_l h2 391 0) b.toInt64 = 0) (t := 505) (st' := []) rfl rfl trivial (fun _ => ?_) (fun c => absurd c0 c)
      refine wp_J (j := 1565) (st' := []) rfl rfl ?_
      exact K h2 _ _ g2 bd (sc1_tr s1 (sc1_tr (sc1_mdl hmd) s2))
  refine wp_steps (i' := 473) (ls' := [some (.ref 1), some (.ref 100), some (.ref 381), some (.ref 391), some (.int (nI i)), w5, w6]) (st' := [.ref 391, .int (mx_i h 1 (nI i + 2).toNatClampNeg), .int (mx_i h 1 (nI i + 1).toNatClampNeg), .ref 100]) (h' := h) (P := (1 = 1 ∧ vp_in (nI i + 1) (mx_r h 1 0)) ∧ (1 = 1 ∧ vp_in (nI i + 2) (mx_r h 1 0)) ∧ True) 12 rfl rfl ⟨⟨rfl, vpi hL hi hL2 (j := 1) (by decide)⟩, ⟨rfl, vpi hL hi hL2 (j := 2) (by decide)⟩, trivial⟩ ?_
  refine wp_call (b := false) (y' := 323) (as := [.ref 100, .int (mx_i h 1 (nI i + 1).toNatClampNeg), .int (mx_i h 1 (nI i + 2).toNatClampNeg), .ref 391]) (rest := []) (P := True) rfl (by with_unfolding_all rfl) trivial (Nat.le_of_ble_eq_true rfl) (wr_323 G (mx_wp.mono (fun o h1 q => ?_) (wp_dm (by decide : 500 ≤ 998) (wp_S1 (wp_G (by decide +kernel) G (O (mx_i h 1 (nI i + 1).toNatClampNeg) (mx_i h 1 (nI i + 2).toNatClampNeg) h vn vd vr vq np ns nl I))))))
  obtain ⟨s1, G1, post⟩ := q
  obtain ⟨n0, o20, h20, e0, b0, eb0, an0, r0⟩ := post h1 mdl_rfl
  refine ⟨G1, ?_⟩
  rcases ans_cases an0 with ⟨v, rfl, -, -⟩ | ⟨kx, rfl, -, q⟩
  · show mx_wp 1000 346 474 [some (.ref 1), some (.ref 100), some (.ref 381), some (.ref 391), some (.int (nI i)), w5, w6] [.int 0] (mx_wl h1 391 0 v.toInt64) Qf
    refine step _ h1 _ 0 G1 s1 post mdl_wl (fun b t a => ⟨a.1, fun _ => ?_⟩)
    have hvb : v = b := a.2
    rw [wl_at, hvb]; exact lgc _
  · refine ⟨code kx, hcs kx q, ?_⟩
    show mx_wp 1000 346 474 [some (.ref 1), some (.ref 100), some (.ref 381), some (.ref 391), some (.int (nI i)), w5, w6] [.int (code kx)] h1 Qf
    exact step _ h1 _ _ G1 s1 post mdl_rfl (fun b t a => ⟨a.1, fun e => absurd e q⟩)
set_option maxRecDepth 8000 in
theorem cs_13 {LW : mxLW} {h : mxH} {i L : Nat} {w5 w6 : Option Value} {Qf : mxO → mxH → Prop} {code : Nat → Int32} (O : ∀ x0 : Int32, Op LW 147 257 [.int x0] code) (hcs : ∀ k, code k ≠ 0 → (k, code k) ∈ ([(2, 1), (4, 2)] : List (Nat × Int32))) (g : GS LW h) (hL : mx_r h 1 0 = L) (hi : i + 6 ≤ L) (hL2 : L ≤ 3072) (K : ∀ (h2 : mxH) (w5 w6 : Option Value), GS LW h2 → bud h h2 → sc1 h h2 → mx_wp 1000 346 1565 [some (.ref 1), some (.ref 100), some (.ref 381), some (.ref 391), some (.int (nI i)), w5, w6] [] h2 Qf) : mx_wp 1000 346 506 [some (.ref 1), some (.ref 100), some (.ref 381), some (.ref 391), some (.int (nI i)), w5, w6] [] h Qf := by
  have G := GS_G g
  obtain ⟨vn, vd, vr, vq, np, ns, nl, I⟩ := g
  have step : ∀ (o : mxO) (h1 hm : mxH) (kk : Int32), mxG h1 → sc1 h h1 → (∀ hm, mdl h1 hm → mx_wp 500 257 0 (mx_fr 257 [.ref 381, .int (mx_i h 1 (nI i + 1).toNatClampNeg)]) [] hm (fun o2 h2 => ∃ b, o2 = .inl (some (.int b)) ∧ ansOk code o b (mx_i h2 381 0) ∧ bud h h2 ∧ GS LW h2)) → mdl h1 hm → (∀ b t, ansOk code o b t → t = kk ∧ (kk = 0 → lg_cmp (mx_l hm 391 0) b.toInt64 = 0)) → mx_wp 1000 346 514 [some (.ref 1), some (.ref 100), some (.ref 381), some (.ref 391), some (.int (nI i)), w5, w6] [.int kk] hm Qf := by
    intro o h1 hm kk G1 s1 post hmd hk
    have sch : mx_i hm 1 = mx_i h 1 := by rw [hmd.2.2.2.1]; exact s1.1
    have hLm : mx_r hm 1 0 = L := by rw [hmd.2.2.2.2, s1.2.1]; exact hL
    have Gm : mxG hm := agr_G (P := fun _ => False) (agr_mdl hmd) G1
    refine wp_steps (i' := 515) (ls' := [some (.ref 1), some (.ref 100), some (.ref 381), some (.ref 391), some (.int (nI i)), some (.int kk), w6]) (st' := []) (h' := hm) (P := True) 1 rfl rfl trivial ?_
    refine wp_steps (i' := 521) (ls' := [some (.ref 1), some (.ref 100), some (.ref 381), some (.ref 391), some (.int (nI i)), some (.int kk), w6]) (st' := [.int (mx_i hm 1 (nI i + 1).toNatClampNeg), .ref 381]) (h' := hm) (P := (1 = 1 ∧ vp_in (nI i + 1) (mx_r hm 1 0)) ∧ True) 6 rfl rfl ⟨⟨rfl, vpi hLm hi hL2 (j := 1) (by decide)⟩, trivial⟩ ?_
    rw [sch]
    refine wp_call (b := false) (y' := 257) (as := [.ref 381, .int (mx_i h 1 (nI i + 1).toNatClampNeg)]) (rest := []) (P := ((mxT 381).1 = mxRc 257 ∧ mxG hm)) rfl (by with_unfolding_all rfl) ⟨congrArg Prod.fst sT_381, Gm⟩ (Nat.le_of_ble_eq_true rfl) (mx_wp.mono (fun o2 h2 q => ?_) (wp_dm (by decide : 500 ≤ 999) (wp_L (by decide +kernel) Gm (wp_S1 (post hm hmd)))))
    obtain ⟨ql, s2, b, rfl, an, bd, g2⟩ := q
    obtain ⟨et, el⟩ := hk b _ an
    have G2 := GS_G g2
    show mx_wp 1000 346 522 [some (.ref 1), some (.ref 100), some (.ref 381), some (.ref 391), some (.int (nI i)), some (.int kk), w6] [.int b] h2 Qf
    refine wp_steps (i' := 524) (ls' := [some (.ref 1), some (.ref 100), some (.ref 381), some (.ref 391), some (.int (nI i)), some (.int kk), some (.int b)]) (st' := [.ref 381]) (h' := h2) (P := True) 2 rfl rfl trivial ?_
    refine wp_call (b := false) (y' := 190) (as := [.ref 381]) (rest := []) (P := ((mxT 381).1 = mxRc 190 ∧ mxG h2)) rfl (by with_unfolding_all rfl) ⟨congrArg Prod.fst sT_381, G2⟩ (Nat.le_of_ble_eq_true rfl) (tr_190_0 G2 ?_)
    show mx_wp 1000 346 525 [some (.ref 1), some (.ref 100), some (.ref 381), some (.ref 391), some (.int (nI i)), some (.int kk), some (.int b)] [.int (mx_i h2 381 0)] h2 Qf
    rw [et]
    refine wp_steps (i' := 526) (ls' := [some (.ref 1), some (.ref 100), some (.ref 381), some (.ref 391), some (.int (nI i)), some (.int kk), some (.int b)]) (st' := [.int kk, .int kk]) (h' := h2) (P := True) 1 rfl rfl trivial ?_
    refine wp_br (P := True) (c := kk = kk) (t := 529) (st' := []) rfl rfl trivial (fun _ => ?_) (fun c => absurd rfl c)
    refine wp_steps (i' := 530) (ls' := [some (.ref 1), some (.ref 100), some (.ref 381), some (.ref 391), some (.int (nI i)), some (.int kk), some (.int b)]) (st' := [.int kk]) (h' := h2) (P := True) 1 rfl rfl trivial ?_
    refine wp_br (P := True) (c := ¬ kk = 0) (t := 540) (st' := []) rfl rfl trivial (fun _ => ?_) (fun c => ?_)
    · refine wp_J (j := 1565) (st' := []) rfl rfl ?_
      exact K h2 _ _ g2 bd (sc1_tr s1 (sc1_tr (sc1_mdl hmd) s2))
    · have c0 := el (Decidable.of_not_not c)
      rw [← ql] at c0
      refine wp_steps (i' := 537) (ls' := [some (.ref 1), some (.ref 100), some (.ref 381), some (.ref 391), some (.int (nI i)), some (.int kk), some (.int b)]) (st' := [.int (lg_cmp (mx_l h2 391 0) b.toInt64)]) (h' := h2) (P := (((mxT 391).1 = 52 ∧ mxG h2) ∧ vp_in 0 (mxT 391).2) ∧ True) 6 rfl rfl ⟨cA sT_391 G2 (vpl rfl), trivial⟩ ?_
      refine wp_br (P := True) (c := lg_cmp (mx_l h2 391 0) b.toInt64 = 0) (t := 540) (st' := []) rfl rfl trivial (fun _ => ?_) (fun c => absurd c0 c)
      refine wp_J (j := 1565) (st' := []) rfl rfl ?_
      exact K h2 _ _ g2 bd (sc1_tr s1 (sc1_tr (sc1_mdl hmd) s2))
  refine wp_steps (i' := 513) (ls' := [some (.ref 1), some (.ref 100), some (.ref 381), some (.ref 391), some (.int (nI i)), w5, w6]) (st' := [.ref 391, .int (mx_i h 1 (nI i + 1).toNatClampNeg), .ref 100]) (h' := h) (P := (1 = 1 ∧ vp_in (nI i + 1) (mx_r h 1 0)) ∧ True) 7 rfl rfl ⟨⟨rfl, vpi hL hi hL2 (j := 1) (by decide)⟩, trivial⟩ ?_
  refine wp_call (b := false) (y' := 324) (as := [.ref 100, .int (mx_i h 1 (nI i + 1).toNatClampNeg), .ref 391]) (rest := []) (P := True) rfl (by with_unfolding_all rfl) trivial (Nat.le_of_ble_eq_true rfl) (wr_324 G (mx_wp.mono (fun o h1 q => ?_) (wp_dm (by decide : 500 ≤ 998) (wp_S1 (wp_G (by decide +kernel) G (O (mx_i h 1 (nI i + 1).toNatClampNeg) h vn vd vr vq np ns nl I))))))
  obtain ⟨s1, G1, post⟩ := q
  obtain ⟨n0, o20, h20, e0, b0, eb0, an0, r0⟩ := post h1 mdl_rfl
  refine ⟨G1, ?_⟩
  rcases ans_cases an0 with ⟨v, rfl, -, -⟩ | ⟨kx, rfl, -, q⟩
  · show mx_wp 1000 346 514 [some (.ref 1), some (.ref 100), some (.ref 381), some (.ref 391), some (.int (nI i)), w5, w6] [.int 0] (mx_wl h1 391 0 v.toInt64) Qf
    refine step _ h1 _ 0 G1 s1 post mdl_wl (fun b t a => ⟨a.1, fun _ => ?_⟩)
    have hvb : v = b := a.2
    rw [wl_at, hvb]; exact lgc _
  · refine ⟨code kx, hcs kx q, ?_⟩
    show mx_wp 1000 346 514 [some (.ref 1), some (.ref 100), some (.ref 381), some (.ref 391), some (.int (nI i)), w5, w6] [.int (code kx)] h1 Qf
    exact step _ h1 _ _ G1 s1 post mdl_rfl (fun b t a => ⟨a.1, fun e => absurd e q⟩)
set_option maxRecDepth 8000 in
theorem cs_14 {LW : mxLW} {h : mxH} {i L : Nat} {w5 w6 : Option Value} {Qf : mxO → mxH → Prop} {code : Nat → Int32} (O : ∀ x0 x1 : Int32, Op LW 148 258 [.int x0, .int x1] code) (hcs : ∀ k, code k ≠ 0 → (k, code k) ∈ ([(2, 1), (4, 2)] : List (Nat × Int32))) (g : GS LW h) (hL : mx_r h 1 0 = L) (hi : i + 6 ≤ L) (hL2 : L ≤ 3072) (K : ∀ (h2 : mxH) (w5 w6 : Option Value), GS LW h2 → bud h h2 → sc1 h h2 → mx_wp 1000 346 1565 [some (.ref 1), some (.ref 100), some (.ref 381), some (.ref 391), some (.int (nI i)), w5, w6] [] h2 Qf) : mx_wp 1000 346 541 [some (.ref 1), some (.ref 100), some (.ref 381), some (.ref 391), some (.int (nI i)), w5, w6] [] h Qf := by
  have G := GS_G g
  obtain ⟨vn, vd, vr, vq, np, ns, nl, I⟩ := g
  have step : ∀ (o : mxO) (h1 hm : mxH) (kk : Int32), mxG h1 → sc1 h h1 → (∀ hm, mdl h1 hm → mx_wp 500 258 0 (mx_fr 258 [.ref 381, .int (mx_i h 1 (nI i + 1).toNatClampNeg), .int (mx_i h 1 (nI i + 2).toNatClampNeg)]) [] hm (fun o2 h2 => ∃ b, o2 = .inl (some (.int b)) ∧ ansOk code o b (mx_i h2 381 0) ∧ bud h h2 ∧ GS LW h2)) → mdl h1 hm → (∀ b t, ansOk code o b t → t = kk ∧ (kk = 0 → lg_cmp (mx_l hm 391 0) b.toInt64 = 0)) → mx_wp 1000 346 554 [some (.ref 1), some (.ref 100), some (.ref 381), some (.ref 391), some (.int (nI i)), w5, w6] [.int kk] hm Qf := by
    intro o h1 hm kk G1 s1 post hmd hk
    have sch : mx_i hm 1 = mx_i h 1 := by rw [hmd.2.2.2.1]; exact s1.1
    have hLm : mx_r hm 1 0 = L := by rw [hmd.2.2.2.2, s1.2.1]; exact hL
    have Gm : mxG hm := agr_G (P := fun _ => False) (agr_mdl hmd) G1
    refine wp_steps (i' := 555) (ls' := [some (.ref 1), some (.ref 100), some (.ref 381), some (.ref 391), some (.int (nI i)), some (.int kk), w6]) (st' := []) (h' := hm) (P := True) 1 rfl rfl trivial ?_
    refine wp_steps (i' := 566) (ls' := [some (.ref 1), some (.ref 100), some (.ref 381), some (.ref 391), some (.int (nI i)), some (.int kk), w6]) (st' := [.int (mx_i hm 1 (nI i + 2).toNatClampNeg), .int (mx_i hm 1 (nI i + 1).toNatClampNeg), .ref 381]) (h' := hm) (P := (1 = 1 ∧ vp_in (nI i + 1) (mx_r hm 1 0)) ∧ (1 = 1 ∧ vp_in (nI i + 2) (mx_r hm 1 0)) ∧ True) 11 rfl rfl ⟨⟨rfl, vpi hLm hi hL2 (j := 1) (by decide)⟩, ⟨rfl, vpi hLm hi hL2 (j := 2) (by decide)⟩, trivial⟩ ?_
    rw [sch]
    refine wp_call (b := false) (y' := 258) (as := [.ref 381, .int (mx_i h 1 (nI i + 1).toNatClampNeg), .int (mx_i h 1 (nI i + 2).toNatClampNeg)]) (rest := []) (P := ((mxT 381).1 = mxRc 258 ∧ mxG hm)) rfl (by with_unfolding_all rfl) ⟨congrArg Prod.fst sT_381, Gm⟩ (Nat.le_of_ble_eq_true rfl) (mx_wp.mono (fun o2 h2 q => ?_) (wp_dm (by decide : 500 ≤ 999) (wp_L (by decide +kernel) Gm (wp_S1 (post hm hmd)))))
    obtain ⟨ql, s2, b, rfl, an, bd, g2⟩ := q
    obtain ⟨et, el⟩ := hk b _ an
    have G2 := GS_G g2
    show mx_wp 1000 346 567 [some (.ref 1), some (.ref 100), some (.ref 381), some (.ref 391), some (.int (nI i)), some (.int kk), w6] [.int b] h2 Qf
    refine wp_steps (i' := 569) (ls' := [some (.ref 1), some (.ref 100), some (.ref 381), some (.ref 391), some (.int (nI i)), some (.int kk), some (.int b)]) (st' := [.ref 381]) (h' := h2) (P := True) 2 rfl rfl trivial ?_
    refine wp_call (b := false) (y' := 190) (as := [.ref 381]) (rest := []) (P := ((mxT 381).1 = mxRc 190 ∧ mxG h2)) rfl (by with_unfolding_all rfl) ⟨congrArg Prod.fst sT_381, G2⟩ (Nat.le_of_ble_eq_true rfl) (tr_190_0 G2 ?_)
    show mx_wp 1000 346 570 [some (.ref 1), some (.ref 100), some (.ref 381), some (.ref 391), some (.int (nI i)), some (.int kk), some (.int b)] [.int (mx_i h2 381 0)] h2 Qf
    rw [et]
    refine wp_steps (i' := 571) (ls' := [some (.ref 1), some (.ref 100), some (.ref 381), some (.ref 391), some (.int (nI i)), some (.int kk), some (.int b)]) (st' := [.int kk, .int kk]) (h' := h2) (P := True) 1 rfl rfl trivial ?_
    refine wp_br (P := True) (c := kk = kk) (t := 574) (st' := []) rfl rfl trivial (fun _ => ?_) (fun c => absurd rfl c)
    refine wp_steps (i' := 575) (ls' := [some (.ref 1), some (.ref 100), some (.ref 381), some (.ref 391), some (.int (nI i)), some (.int kk), some (.int b)]) (st' := [.int kk]) (h' := h2) (P := True) 1 rfl rfl trivial ?_
    refine wp_br (P := True) (c := ¬ kk = 0) (t := 585) (st' := []) rfl rfl trivial (fun _ => ?_) (fun c => ?_)
    · refine wp_J (j := 1565) (st' := []) rfl rfl ?_
      exact K h2 _ _ g2 bd (sc1_tr s1 (sc1_tr (sc1_mdl hmd) s2))
    · have c0 := el (Decidable.of_not_not c)
      rw [← ql] at c0
      refine wp_steps (i' := 582) (ls' := [some (.ref 1), some (.ref 100), some (.ref 381), some (.ref 391), some (.int (nI i)), some (.int kk), some (.int b)]) (st' := [.int (lg_cmp (mx_l h2 391 0) b.toInt64)]) (h' := h2) (P := (((mxT 391).1 = 52 ∧ mxG h2) ∧ vp_in 0 (mxT 391).2) ∧ True) 6 rfl rfl ⟨cA sT_391 G2 (vpl rfl), trivial⟩ ?_
      refine wp_br (P := True) (c := lg_cmp (mx_l h2 391 0) b.toInt64 = 0) (t := 585) (st' := []) rfl rfl trivial (fun _ => ?_) (fun c => absurd c0 c)
      refine wp_J (j := 1565) (st' := []) rfl rfl ?_
      exact K h2 _ _ g2 bd (sc1_tr s1 (sc1_tr (sc1_mdl hmd) s2))
  refine wp_steps (i' := 553) (ls' := [some (.ref 1), some (.ref 100), some (.ref 381), some (.ref 391), some (.int (nI i)), w5, w6]) (st' := [.ref 391, .int (mx_i h 1 (nI i + 2).toNatClampNeg), .int (mx_i h 1 (nI i + 1).toNatClampNeg), .ref 100]) (h' := h) (P := (1 = 1 ∧ vp_in (nI i + 1) (mx_r h 1 0)) ∧ (1 = 1 ∧ vp_in (nI i + 2) (mx_r h 1 0)) ∧ True) 12 rfl rfl ⟨⟨rfl, vpi hL hi hL2 (j := 1) (by decide)⟩, ⟨rfl, vpi hL hi hL2 (j := 2) (by decide)⟩, trivial⟩ ?_
  refine wp_call (b := false) (y' := 325) (as := [.ref 100, .int (mx_i h 1 (nI i + 1).toNatClampNeg), .int (mx_i h 1 (nI i + 2).toNatClampNeg), .ref 391]) (rest := []) (P := True) rfl (by with_unfolding_all rfl) trivial (Nat.le_of_ble_eq_true rfl) (wr_325 G (mx_wp.mono (fun o h1 q => ?_) (wp_dm (by decide : 500 ≤ 998) (wp_S1 (wp_G (by decide +kernel) G (O (mx_i h 1 (nI i + 1).toNatClampNeg) (mx_i h 1 (nI i + 2).toNatClampNeg) h vn vd vr vq np ns nl I))))))
  obtain ⟨s1, G1, post⟩ := q
  obtain ⟨n0, o20, h20, e0, b0, eb0, an0, r0⟩ := post h1 mdl_rfl
  refine ⟨G1, ?_⟩
  rcases ans_cases an0 with ⟨v, rfl, -, -⟩ | ⟨kx, rfl, -, q⟩
  · show mx_wp 1000 346 554 [some (.ref 1), some (.ref 100), some (.ref 381), some (.ref 391), some (.int (nI i)), w5, w6] [.int 0] (mx_wl h1 391 0 v.toInt64) Qf
    refine step _ h1 _ 0 G1 s1 post mdl_wl (fun b t a => ⟨a.1, fun _ => ?_⟩)
    have hvb : v = b := a.2
    rw [wl_at, hvb]; exact lgc _
  · refine ⟨code kx, hcs kx q, ?_⟩
    show mx_wp 1000 346 554 [some (.ref 1), some (.ref 100), some (.ref 381), some (.ref 391), some (.int (nI i)), w5, w6] [.int (code kx)] h1 Qf
    exact step _ h1 _ _ G1 s1 post mdl_rfl (fun b t a => ⟨a.1, fun e => absurd e q⟩)
set_option maxRecDepth 8000 in
theorem cs_15 {LW : mxLW} {h : mxH} {i L : Nat} {w5 w6 : Option Value} {Qf : mxO → mxH → Prop} {code : Nat → Int32} (O : ∀ x0 x1 : Int32, Op LW 149 259 [.int x0, .int x1] code) (hcs : ∀ k, code k ≠ 0 → (k, code k) ∈ ([(2, 1)] : List (Nat × Int32))) (g : GS LW h) (hL : mx_r h 1 0 = L) (hi : i + 6 ≤ L) (hL2 : L ≤ 3072) (K : ∀ (h2 : mxH) (w5 w6 : Option Value), GS LW h2 → bud h h2 → sc1 h h2 → mx_wp 1000 346 1565 [some (.ref 1), some (.ref 100), some (.ref 381), some (.ref 391), some (.int (nI i)), w5, w6] [] h2 Qf) : mx_wp 1000 346 586 [some (.ref 1), some (.ref 100), some (.ref 381), some (.ref 391), some (.int (nI i)), w5, w6] [] h Qf := by
  have G := GS_G g
  obtain ⟨vn, vd, vr, vq, np, ns, nl, I⟩ := g
  have step : ∀ (o : mxO) (h1 hm : mxH) (kk : Int32), mxG h1 → sc1 h h1 → (∀ hm, mdl h1 hm → mx_wp 500 259 0 (mx_fr 259 [.ref 381, .int (mx_i h 1 (nI i + 1).toNatClampNeg), .int (mx_i h 1 (nI i + 2).toNatClampNeg)]) [] hm (fun o2 h2 => ∃ b, o2 = .inl (some (.int b)) ∧ ansOk code o b (mx_i h2 381 0) ∧ bud h h2 ∧ GS LW h2)) → mdl h1 hm → (∀ b t, ansOk code o b t → t = kk ∧ (kk = 0 → lg_cmp (mx_l hm 391 0) b.toInt64 = 0)) → mx_wp 1000 346 599 [some (.ref 1), some (.ref 100), some (.ref 381), some (.ref 391), some (.int (nI i)), w5, w6] [.int kk] hm Qf := by
    intro o h1 hm kk G1 s1 post hmd hk
    have sch : mx_i hm 1 = mx_i h 1 := by rw [hmd.2.2.2.1]; exact s1.1
    have hLm : mx_r hm 1 0 = L := by rw [hmd.2.2.2.2, s1.2.1]; exact hL
    have Gm : mxG hm := agr_G (P := fun _ => False) (agr_mdl hmd) G1
    refine wp_steps (i' := 600) (ls' := [some (.ref 1), some (.ref 100), some (.ref 381), some (.ref 391), some (.int (nI i)), some (.int kk), w6]) (st' := []) (h' := hm) (P := True) 1 rfl rfl trivial ?_
    refine wp_steps (i' := 611) (ls' := [some (.ref 1), some (.ref 100), some (.ref 381), some (.ref 391), some (.int (nI i)), some (.int kk), w6]) (st' := [.int (mx_i hm 1 (nI i + 2).toNatClampNeg), .int (mx_i hm 1 (nI i + 1).toNatClampNeg), .ref 381]) (h' := hm) (P := (1 = 1 ∧ vp_in (nI i + 1) (mx_r hm 1 0)) ∧ (1 = 1 ∧ vp_in (nI i + 2) (mx_r hm 1 0)) ∧ True) 11 rfl rfl ⟨⟨rfl, vpi hLm hi hL2 (j := 1) (by decide)⟩, ⟨rfl, vpi hLm hi hL2 (j := 2) (by decide)⟩, trivial⟩ ?_
    rw [sch]
    refine wp_call (b := false) (y' := 259) (as := [.ref 381, .int (mx_i h 1 (nI i + 1).toNatClampNeg), .int (mx_i h 1 (nI i + 2).toNatClampNeg)]) (rest := []) (P := ((mxT 381).1 = mxRc 259 ∧ mxG hm)) rfl (by with_unfolding_all rfl) ⟨congrArg Prod.fst sT_381, Gm⟩ (Nat.le_of_ble_eq_true rfl) (mx_wp.mono (fun o2 h2 q => ?_) (wp_dm (by decide : 500 ≤ 999) (wp_L (by decide +kernel) Gm (wp_S1 (post hm hmd)))))
    obtain ⟨ql, s2, b, rfl, an, bd, g2⟩ := q
    obtain ⟨et, el⟩ := hk b _ an
    have G2 := GS_G g2
    show mx_wp 1000 346 612 [some (.ref 1), some (.ref 100), some (.ref 381), some (.ref 391), some (.int (nI i)), some (.int kk), w6] [.int b] h2 Qf
    refine wp_steps (i' := 614) (ls' := [some (.ref 1), some (.ref 100), some (.ref 381), some (.ref 391), some (.int (nI i)), some (.int kk), some (.int b)]) (st' := [.ref 381]) (h' := h2) (P := True) 2 rfl rfl trivial ?_
    refine wp_call (b := false) (y' := 190) (as := [.ref 381]) (rest := []) (P := ((mxT 381).1 = mxRc 190 ∧ mxG h2)) rfl (by with_unfolding_all rfl) ⟨congrArg Prod.fst sT_381, G2⟩ (Nat.le_of_ble_eq_true rfl) (tr_190_0 G2 ?_)
    show mx_wp 1000 346 615 [some (.ref 1), some (.ref 100), some (.ref 381), some (.ref 391), some (.int (nI i)), some (.int kk), some (.int b)] [.int (mx_i h2 381 0)] h2 Qf
    rw [et]
    refine wp_steps (i' := 616) (ls' := [some (.ref 1), some (.ref 100), some (.ref 381), some (.ref 391), some (.int (nI i)), some (.int kk), some (.int b)]) (st' := [.int kk, .int kk]) (h' := h2) (P := True) 1 rfl rfl trivial ?_
    refine wp_br (P := True) (c := kk = kk) (t := 619) (st' := []) rfl rfl trivial (fun _ => ?_) (fun c => absurd rfl c)
    refine wp_steps (i' := 620) (ls' := [some (.ref 1), some (.ref 100), some (.ref 381), some (.ref 391), some (.int (nI i)), some (.int kk), some (.int b)]) (st' := [.int kk]) (h' := h2) (P := True) 1 rfl rfl trivial ?_
    refine wp_br (P := True) (c := ¬ kk = 0) (t := 630) (st' := []) rfl rfl trivial (fun _ => ?_) (fun c => ?_)
    · refine wp_J (j := 1565) (st' := []) rfl rfl ?_
      exact K h2 _ _ g2 bd (sc1_tr s1 (sc1_tr (sc1_mdl hmd) s2))
    · have c0 := el (Decidable.of_not_not c)
      rw [← ql] at c0
      refine wp_steps (i' := 627) (ls' := [some (.ref 1), some (.ref 100), some (.ref 381), some (.ref 391), some (.int (nI i)), some (.int kk), some (.int b)]) (st' := [.int (lg_cmp (mx_l h2 391 0) b.toInt64)]) (h' := h2) (P := (((mxT 391).1 = 52 ∧ mxG h2) ∧ vp_in 0 (mxT 391).2) ∧ True) 6 rfl rfl ⟨cA sT_391 G2 (vpl rfl), trivial⟩ ?_
      refine wp_br (P := True) (c := lg_cmp (mx_l h2 391 0) b.toInt64 = 0) (t := 630) (st' := []) rfl rfl trivial (fun _ => ?_) (fun c => absurd c0 c)
      refine wp_J (j := 1565) (st' := []) rfl rfl ?_
      exact K h2 _ _ g2 bd (sc1_tr s1 (sc1_tr (sc1_mdl hmd) s2))
  refine wp_steps (i' := 598) (ls' := [some (.ref 1), some (.ref 100), some (.ref 381), some (.ref 391), some (.int (nI i)), w5, w6]) (st' := [.ref 391, .int (mx_i h 1 (nI i + 2).toNatClampNeg), .int (mx_i h 1 (nI i + 1).toNatClampNeg), .ref 100]) (h' := h) (P := (1 = 1 ∧ vp_in (nI i + 1) (mx_r h 1 0)) ∧ (1 = 1 ∧ vp_in (nI i + 2) (mx_r h 1 0)) ∧ True) 12 rfl rfl ⟨⟨rfl, vpi hL hi hL2 (j := 1) (by decide)⟩, ⟨rfl, vpi hL hi hL2 (j := 2) (by decide)⟩, trivial⟩ ?_
  refine wp_call (b := false) (y' := 326) (as := [.ref 100, .int (mx_i h 1 (nI i + 1).toNatClampNeg), .int (mx_i h 1 (nI i + 2).toNatClampNeg), .ref 391]) (rest := []) (P := True) rfl (by with_unfolding_all rfl) trivial (Nat.le_of_ble_eq_true rfl) (wr_326 G (mx_wp.mono (fun o h1 q => ?_) (wp_dm (by decide : 500 ≤ 998) (wp_S1 (wp_G (by decide +kernel) G (O (mx_i h 1 (nI i + 1).toNatClampNeg) (mx_i h 1 (nI i + 2).toNatClampNeg) h vn vd vr vq np ns nl I))))))
  obtain ⟨s1, G1, post⟩ := q
  obtain ⟨n0, o20, h20, e0, b0, eb0, an0, r0⟩ := post h1 mdl_rfl
  refine ⟨G1, ?_⟩
  rcases ans_cases an0 with ⟨v, rfl, -, -⟩ | ⟨kx, rfl, -, q⟩
  · show mx_wp 1000 346 599 [some (.ref 1), some (.ref 100), some (.ref 381), some (.ref 391), some (.int (nI i)), w5, w6] [.int 0] (mx_wl h1 391 0 v.toInt64) Qf
    refine step _ h1 _ 0 G1 s1 post mdl_wl (fun b t a => ⟨a.1, fun _ => ?_⟩)
    have hvb : v = b := a.2
    rw [wl_at, hvb]; exact lgc _
  · refine ⟨code kx, hcs kx q, ?_⟩
    show mx_wp 1000 346 599 [some (.ref 1), some (.ref 100), some (.ref 381), some (.ref 391), some (.int (nI i)), w5, w6] [.int (code kx)] h1 Qf
    exact step _ h1 _ _ G1 s1 post mdl_rfl (fun b t a => ⟨a.1, fun e => absurd e q⟩)
set_option maxRecDepth 8000 in
theorem cs_16 {LW : mxLW} {h : mxH} {i L : Nat} {w5 w6 : Option Value} {Qf : mxO → mxH → Prop} {code : Nat → Int32} (O : ∀ x0 : Int32, Op LW 150 260 [.int x0] code) (hcs : ∀ k, code k ≠ 0 → (k, code k) ∈ ([(2, 1)] : List (Nat × Int32))) (g : GS LW h) (hL : mx_r h 1 0 = L) (hi : i + 6 ≤ L) (hL2 : L ≤ 3072) (K : ∀ (h2 : mxH) (w5 w6 : Option Value), GS LW h2 → bud h h2 → sc1 h h2 → mx_wp 1000 346 1565 [some (.ref 1), some (.ref 100), some (.ref 381), some (.ref 391), some (.int (nI i)), w5, w6] [] h2 Qf) : mx_wp 1000 346 631 [some (.ref 1), some (.ref 100), some (.ref 381), some (.ref 391), some (.int (nI i)), w5, w6] [] h Qf := by
  have G := GS_G g
  obtain ⟨vn, vd, vr, vq, np, ns, nl, I⟩ := g
  have step : ∀ (o : mxO) (h1 hm : mxH) (kk : Int32), mxG h1 → sc1 h h1 → (∀ hm, mdl h1 hm → mx_wp 500 260 0 (mx_fr 260 [.ref 381, .int (mx_i h 1 (nI i + 1).toNatClampNeg)]) [] hm (fun o2 h2 => ∃ b, o2 = .inl (some (.int b)) ∧ ansOk code o b (mx_i h2 381 0) ∧ bud h h2 ∧ GS LW h2)) → mdl h1 hm → (∀ b t, ansOk code o b t → t = kk ∧ (kk = 0 → lg_cmp (mx_l hm 391 0) b.toInt64 = 0)) → mx_wp 1000 346 639 [some (.ref 1), some (.ref 100), some (.ref 381), some (.ref 391), some (.int (nI i)), w5, w6] [.int kk] hm Qf := by
    intro o h1 hm kk G1 s1 post hmd hk
    have sch : mx_i hm 1 = mx_i h 1 := by rw [hmd.2.2.2.1]; exact s1.1
    have hLm : mx_r hm 1 0 = L := by rw [hmd.2.2.2.2, s1.2.1]; exact hL
    have Gm : mxG hm := agr_G (P := fun _ => False) (agr_mdl hmd) G1
    refine wp_steps (i' := 640) (ls' := [some (.ref 1), some (.ref 100), some (.ref 381), some (.ref 391), some (.int (nI i)), some (.int kk), w6]) (st' := []) (h' := hm) (P := True) 1 rfl rfl trivial ?_
    refine wp_steps (i' := 646) (ls' := [some (.ref 1), some (.ref 100), some (.ref 381), some (.ref 391), some (.int (nI i)), some (.int kk), w6]) (st' := [.int (mx_i hm 1 (nI i + 1).toNatClampNeg), .ref 381]) (h' := hm) (P := (1 = 1 ∧ vp_in (nI i + 1) (mx_r hm 1 0)) ∧ True) 6 rfl rfl ⟨⟨rfl, vpi hLm hi hL2 (j := 1) (by decide)⟩, trivial⟩ ?_
    rw [sch]
    refine wp_call (b := false) (y' := 260) (as := [.ref 381, .int (mx_i h 1 (nI i + 1).toNatClampNeg)]) (rest := []) (P := ((mxT 381).1 = mxRc 260 ∧ mxG hm)) rfl (by with_unfolding_all rfl) ⟨congrArg Prod.fst sT_381, Gm⟩ (Nat.le_of_ble_eq_true rfl) (mx_wp.mono (fun o2 h2 q => ?_) (wp_dm (by decide : 500 ≤ 999) (wp_L (by decide +kernel) Gm (wp_S1 (post hm hmd)))))
    obtain ⟨ql, s2, b, rfl, an, bd, g2⟩ := q
    obtain ⟨et, el⟩ := hk b _ an
    have G2 := GS_G g2
    show mx_wp 1000 346 647 [some (.ref 1), some (.ref 100), some (.ref 381), some (.ref 391), some (.int (nI i)), some (.int kk), w6] [.int b] h2 Qf
    refine wp_steps (i' := 649) (ls' := [some (.ref 1), some (.ref 100), some (.ref 381), some (.ref 391), some (.int (nI i)), some (.int kk), some (.int b)]) (st' := [.ref 381]) (h' := h2) (P := True) 2 rfl rfl trivial ?_
    refine wp_call (b := false) (y' := 190) (as := [.ref 381]) (rest := []) (P := ((mxT 381).1 = mxRc 190 ∧ mxG h2)) rfl (by with_unfolding_all rfl) ⟨congrArg Prod.fst sT_381, G2⟩ (Nat.le_of_ble_eq_true rfl) (tr_190_0 G2 ?_)
    show mx_wp 1000 346 650 [some (.ref 1), some (.ref 100), some (.ref 381), some (.ref 391), some (.int (nI i)), some (.int kk), some (.int b)] [.int (mx_i h2 381 0)] h2 Qf
    rw [et]
    refine wp_steps (i' := 651) (ls' := [some (.ref 1), some (.ref 100), some (.ref 381), some (.ref 391), some (.int (nI i)), some (.int kk), some (.int b)]) (st' := [.int kk, .int kk]) (h' := h2) (P := True) 1 rfl rfl trivial ?_
    refine wp_br (P := True) (c := kk = kk) (t := 654) (st' := []) rfl rfl trivial (fun _ => ?_) (fun c => absurd rfl c)
    refine wp_steps (i' := 655) (ls' := [some (.ref 1), some (.ref 100), some (.ref 381), some (.ref 391), some (.int (nI i)), some (.int kk), some (.int b)]) (st' := [.int kk]) (h' := h2) (P := True) 1 rfl rfl trivial ?_
    refine wp_br (P := True) (c := ¬ kk = 0) (t := 665) (st' := []) rfl rfl trivial (fun _ => ?_) (fun c => ?_)
    · refine wp_J (j := 1565) (st' := []) rfl rfl ?_
      exact K h2 _ _ g2 bd (sc1_tr s1 (sc1_tr (sc1_mdl hmd) s2))
    · have c0 := el (Decidable.of_not_not c)
      rw [← ql] at c0
      refine wp_steps (i' := 662) (ls' := [some (.ref 1), some (.ref 100), some (.ref 381), some (.ref 391), some (.int (nI i)), some (.int kk), some (.int b)]) (st' := [.int (lg_cmp (mx_l h2 391 0) b.toInt64)]) (h' := h2) (P := (((mxT 391).1 = 52 ∧ mxG h2) ∧ vp_in 0 (mxT 391).2) ∧ True) 6 rfl rfl ⟨cA sT_391 G2 (vpl rfl), trivial⟩ ?_
      refine wp_br (P := True) (c := lg_cmp (mx_l h2 391 0) b.toInt64 = 0) (t := 665) (st' := []) rfl rfl trivial (fun _ => ?_) (fun c => absurd c0 c)
      refine wp_J (j := 1565) (st' := []) rfl rfl ?_
      exact K h2 _ _ g2 bd (sc1_tr s1 (sc1_tr (sc1_mdl hmd) s2))
  refine wp_steps (i' := 638) (ls' := [some (.ref 1), some (.ref 100), some (.ref 381), some (.ref 391), some (.int (nI i)), w5, w6]) (st' := [.ref 391, .int (mx_i h 1 (nI i + 1).toNatClampNeg), .ref 100]) (h' := h) (P := (1 = 1 ∧ vp_in (nI i + 1) (mx_r h 1 0)) ∧ True) 7 rfl rfl ⟨⟨rfl, vpi hL hi hL2 (j := 1) (by decide)⟩, trivial⟩ ?_
  refine wp_call (b := false) (y' := 327) (as := [.ref 100, .int (mx_i h 1 (nI i + 1).toNatClampNeg), .ref 391]) (rest := []) (P := True) rfl (by with_unfolding_all rfl) trivial (Nat.le_of_ble_eq_true rfl) (wr_327 G (mx_wp.mono (fun o h1 q => ?_) (wp_dm (by decide : 500 ≤ 998) (wp_S1 (wp_G (by decide +kernel) G (O (mx_i h 1 (nI i + 1).toNatClampNeg) h vn vd vr vq np ns nl I))))))
  obtain ⟨s1, G1, post⟩ := q
  obtain ⟨n0, o20, h20, e0, b0, eb0, an0, r0⟩ := post h1 mdl_rfl
  refine ⟨G1, ?_⟩
  rcases ans_cases an0 with ⟨v, rfl, -, -⟩ | ⟨kx, rfl, -, q⟩
  · show mx_wp 1000 346 639 [some (.ref 1), some (.ref 100), some (.ref 381), some (.ref 391), some (.int (nI i)), w5, w6] [.int 0] (mx_wl h1 391 0 v.toInt64) Qf
    refine step _ h1 _ 0 G1 s1 post mdl_wl (fun b t a => ⟨a.1, fun _ => ?_⟩)
    have hvb : v = b := a.2
    rw [wl_at, hvb]; exact lgc _
  · refine ⟨code kx, hcs kx q, ?_⟩
    show mx_wp 1000 346 639 [some (.ref 1), some (.ref 100), some (.ref 381), some (.ref 391), some (.int (nI i)), w5, w6] [.int (code kx)] h1 Qf
    exact step _ h1 _ _ G1 s1 post mdl_rfl (fun b t a => ⟨a.1, fun e => absurd e q⟩)
set_option maxRecDepth 8000 in
theorem cs_17 {LW : mxLW} {h : mxH} {i L : Nat} {w5 w6 : Option Value} {Qf : mxO → mxH → Prop} {code : Nat → Int32} (O : ∀ x0 : Int32, Op LW 151 261 [.int x0] code) (hcs : ∀ k, code k ≠ 0 → (k, code k) ∈ ([(0, 1)] : List (Nat × Int32))) (g : GS LW h) (hL : mx_r h 1 0 = L) (hi : i + 6 ≤ L) (hL2 : L ≤ 3072) (K : ∀ (h2 : mxH) (w5 w6 : Option Value), GS LW h2 → bud h h2 → sc1 h h2 → mx_wp 1000 346 1565 [some (.ref 1), some (.ref 100), some (.ref 381), some (.ref 391), some (.int (nI i)), w5, w6] [] h2 Qf) : mx_wp 1000 346 666 [some (.ref 1), some (.ref 100), some (.ref 381), some (.ref 391), some (.int (nI i)), w5, w6] [] h Qf := by
  have G := GS_G g
  obtain ⟨vn, vd, vr, vq, np, ns, nl, I⟩ := g
  have step : ∀ (o : mxO) (h1 hm : mxH) (kk : Int32), mxG h1 → sc1 h h1 → (∀ hm, mdl h1 hm → mx_wp 500 261 0 (mx_fr 261 [.ref 381, .int (mx_i h 1 (nI i + 1).toNatClampNeg)]) [] hm (fun o2 h2 => ∃ b, o2 = .inl (some (.int b)) ∧ ansOk code o b (mx_i h2 381 0) ∧ bud h h2 ∧ GS LW h2)) → mdl h1 hm → (∀ b t, ansOk code o b t → t = kk ∧ (kk = 0 → lg_cmp (mx_l hm 391 0) b.toInt64 = 0)) → mx_wp 1000 346 674 [some (.ref 1), some (.ref 100), some (.ref 381), some (.ref 391), some (.int (nI i)), w5, w6] [.int kk] hm Qf := by
    intro o h1 hm kk G1 s1 post hmd hk
    have sch : mx_i hm 1 = mx_i h 1 := by rw [hmd.2.2.2.1]; exact s1.1
    have hLm : mx_r hm 1 0 = L := by rw [hmd.2.2.2.2, s1.2.1]; exact hL
    have Gm : mxG hm := agr_G (P := fun _ => False) (agr_mdl hmd) G1
    refine wp_steps (i' := 675) (ls' := [some (.ref 1), some (.ref 100), some (.ref 381), some (.ref 391), some (.int (nI i)), some (.int kk), w6]) (st' := []) (h' := hm) (P := True) 1 rfl rfl trivial ?_
    refine wp_steps (i' := 681) (ls' := [some (.ref 1), some (.ref 100), some (.ref 381), some (.ref 391), some (.int (nI i)), some (.int kk), w6]) (st' := [.int (mx_i hm 1 (nI i + 1).toNatClampNeg), .ref 381]) (h' := hm) (P := (1 = 1 ∧ vp_in (nI i + 1) (mx_r hm 1 0)) ∧ True) 6 rfl rfl ⟨⟨rfl, vpi hLm hi hL2 (j := 1) (by decide)⟩, trivial⟩ ?_
    rw [sch]
    refine wp_call (b := false) (y' := 261) (as := [.ref 381, .int (mx_i h 1 (nI i + 1).toNatClampNeg)]) (rest := []) (P := ((mxT 381).1 = mxRc 261 ∧ mxG hm)) rfl (by with_unfolding_all rfl) ⟨congrArg Prod.fst sT_381, Gm⟩ (Nat.le_of_ble_eq_true rfl) (mx_wp.mono (fun o2 h2 q => ?_) (wp_dm (by decide : 500 ≤ 999) (wp_L (by decide +kernel) Gm (wp_S1 (post hm hmd)))))
    obtain ⟨ql, s2, b, rfl, an, bd, g2⟩ := q
    obtain ⟨et, el⟩ := hk b _ an
    have G2 := GS_G g2
    show mx_wp 1000 346 682 [some (.ref 1), some (.ref 100), some (.ref 381), some (.ref 391), some (.int (nI i)), some (.int kk), w6] [.int b] h2 Qf
    refine wp_steps (i' := 684) (ls' := [some (.ref 1), some (.ref 100), some (.ref 381), some (.ref 391), some (.int (nI i)), some (.int kk), some (.int b)]) (st' := [.ref 381]) (h' := h2) (P := True) 2 rfl rfl trivial ?_
    refine wp_call (b := false) (y' := 190) (as := [.ref 381]) (rest := []) (P := ((mxT 381).1 = mxRc 190 ∧ mxG h2)) rfl (by with_unfolding_all rfl) ⟨congrArg Prod.fst sT_381, G2⟩ (Nat.le_of_ble_eq_true rfl) (tr_190_0 G2 ?_)
    show mx_wp 1000 346 685 [some (.ref 1), some (.ref 100), some (.ref 381), some (.ref 391), some (.int (nI i)), some (.int kk), some (.int b)] [.int (mx_i h2 381 0)] h2 Qf
    rw [et]
    refine wp_steps (i' := 686) (ls' := [some (.ref 1), some (.ref 100), some (.ref 381), some (.ref 391), some (.int (nI i)), some (.int kk), some (.int b)]) (st' := [.int kk, .int kk]) (h' := h2) (P := True) 1 rfl rfl trivial ?_
    refine wp_br (P := True) (c := kk = kk) (t := 689) (st' := []) rfl rfl trivial (fun _ => ?_) (fun c => absurd rfl c)
    refine wp_steps (i' := 690) (ls' := [some (.ref 1), some (.ref 100), some (.ref 381), some (.ref 391), some (.int (nI i)), some (.int kk), some (.int b)]) (st' := [.int kk]) (h' := h2) (P := True) 1 rfl rfl trivial ?_
    refine wp_br (P := True) (c := ¬ kk = 0) (t := 700) (st' := []) rfl rfl trivial (fun _ => ?_) (fun c => ?_)
    · refine wp_J (j := 1565) (st' := []) rfl rfl ?_
      exact K h2 _ _ g2 bd (sc1_tr s1 (sc1_tr (sc1_mdl hmd) s2))
    · have c0 := el (Decidable.of_not_not c)
      rw [← ql] at c0
      refine wp_steps (i' := 697) (ls' := [some (.ref 1), some (.ref 100), some (.ref 381), some (.ref 391), some (.int (nI i)), some (.int kk), some (.int b)]) (st' := [.int (lg_cmp (mx_l h2 391 0) b.toInt64)]) (h' := h2) (P := (((mxT 391).1 = 52 ∧ mxG h2) ∧ vp_in 0 (mxT 391).2) ∧ True) 6 rfl rfl ⟨cA sT_391 G2 (vpl rfl), trivial⟩ ?_
      refine wp_br (P := True) (c := lg_cmp (mx_l h2 391 0) b.toInt64 = 0) (t := 700) (st' := []) rfl rfl trivial (fun _ => ?_) (fun c => absurd c0 c)
      refine wp_J (j := 1565) (st' := []) rfl rfl ?_
      exact K h2 _ _ g2 bd (sc1_tr s1 (sc1_tr (sc1_mdl hmd) s2))
  refine wp_steps (i' := 673) (ls' := [some (.ref 1), some (.ref 100), some (.ref 381), some (.ref 391), some (.int (nI i)), w5, w6]) (st' := [.ref 391, .int (mx_i h 1 (nI i + 1).toNatClampNeg), .ref 100]) (h' := h) (P := (1 = 1 ∧ vp_in (nI i + 1) (mx_r h 1 0)) ∧ True) 7 rfl rfl ⟨⟨rfl, vpi hL hi hL2 (j := 1) (by decide)⟩, trivial⟩ ?_
  refine wp_call (b := false) (y' := 328) (as := [.ref 100, .int (mx_i h 1 (nI i + 1).toNatClampNeg), .ref 391]) (rest := []) (P := True) rfl (by with_unfolding_all rfl) trivial (Nat.le_of_ble_eq_true rfl) (wr_328 G (mx_wp.mono (fun o h1 q => ?_) (wp_dm (by decide : 500 ≤ 998) (wp_S1 (wp_G (by decide +kernel) G (O (mx_i h 1 (nI i + 1).toNatClampNeg) h vn vd vr vq np ns nl I))))))
  obtain ⟨s1, G1, post⟩ := q
  obtain ⟨n0, o20, h20, e0, b0, eb0, an0, r0⟩ := post h1 mdl_rfl
  refine ⟨G1, ?_⟩
  rcases ans_cases an0 with ⟨v, rfl, -, -⟩ | ⟨kx, rfl, -, q⟩
  · show mx_wp 1000 346 674 [some (.ref 1), some (.ref 100), some (.ref 381), some (.ref 391), some (.int (nI i)), w5, w6] [.int 0] (mx_wl h1 391 0 v.toInt64) Qf
    refine step _ h1 _ 0 G1 s1 post mdl_wl (fun b t a => ⟨a.1, fun _ => ?_⟩)
    have hvb : v = b := a.2
    rw [wl_at, hvb]; exact lgc _
  · refine ⟨code kx, hcs kx q, ?_⟩
    show mx_wp 1000 346 674 [some (.ref 1), some (.ref 100), some (.ref 381), some (.ref 391), some (.int (nI i)), w5, w6] [.int (code kx)] h1 Qf
    exact step _ h1 _ _ G1 s1 post mdl_rfl (fun b t a => ⟨a.1, fun e => absurd e q⟩)
set_option maxRecDepth 8000 in
theorem cs_18 {LW : mxLW} {h : mxH} {i L : Nat} {w5 w6 : Option Value} {Qf : mxO → mxH → Prop} {code : Nat → Int32} (O : ∀ x0 x1 : Int32, Op LW 153 263 [.int x0, .int x1] code) (hcs : ∀ k, code k ≠ 0 → (k, code k) ∈ ([(2, 1)] : List (Nat × Int32))) (g : GS LW h) (hL : mx_r h 1 0 = L) (hi : i + 6 ≤ L) (hL2 : L ≤ 3072) (K : ∀ (h2 : mxH) (w5 w6 : Option Value), GS LW h2 → bud h h2 → sc1 h h2 → mx_wp 1000 346 1565 [some (.ref 1), some (.ref 100), some (.ref 381), some (.ref 391), some (.int (nI i)), w5, w6] [] h2 Qf) : mx_wp 1000 346 701 [some (.ref 1), some (.ref 100), some (.ref 381), some (.ref 391), some (.int (nI i)), w5, w6] [] h Qf := by
  have G := GS_G g
  obtain ⟨vn, vd, vr, vq, np, ns, nl, I⟩ := g
  have step : ∀ (o : mxO) (h1 hm : mxH) (kk : Int32), mxG h1 → sc1 h h1 → (∀ hm, mdl h1 hm → mx_wp 500 263 0 (mx_fr 263 [.ref 381, .int (mx_i h 1 (nI i + 1).toNatClampNeg), .int (mx_i h 1 (nI i + 2).toNatClampNeg)]) [] hm (fun o2 h2 => ∃ b, o2 = .inl (some (.int b)) ∧ ansOk code o b (mx_i h2 381 0) ∧ bud h h2 ∧ GS LW h2)) → mdl h1 hm → (∀ b t, ansOk code o b t → t = kk ∧ (kk = 0 → lg_cmp (mx_l hm 391 0) b.toInt64 = 0)) → mx_wp 1000 346 714 [some (.ref 1), some (.ref 100), some (.ref 381), some (.ref 391), some (.int (nI i)), w5, w6] [.int kk] hm Qf := by
    intro o h1 hm kk G1 s1 post hmd hk
    have sch : mx_i hm 1 = mx_i h 1 := by rw [hmd.2.2.2.1]; exact s1.1
    have hLm : mx_r hm 1 0 = L := by rw [hmd.2.2.2.2, s1.2.1]; exact hL
    have Gm : mxG hm := agr_G (P := fun _ => False) (agr_mdl hmd) G1
    refine wp_steps (i' := 715) (ls' := [some (.ref 1), some (.ref 100), some (.ref 381), some (.ref 391), some (.int (nI i)), some (.int kk), w6]) (st' := []) (h' := hm) (P := True) 1 rfl rfl trivial ?_
    refine wp_steps (i' := 726) (ls' := [some (.ref 1), some (.ref 100), some (.ref 381), some (.ref 391), some (.int (nI i)), some (.int kk), w6]) (st' := [.int (mx_i hm 1 (nI i + 2).toNatClampNeg), .int (mx_i hm 1 (nI i + 1).toNatClampNeg), .ref 381]) (h' := hm) (P := (1 = 1 ∧ vp_in (nI i + 1) (mx_r hm 1 0)) ∧ (1 = 1 ∧ vp_in (nI i + 2) (mx_r hm 1 0)) ∧ True) 11 rfl rfl ⟨⟨rfl, vpi hLm hi hL2 (j := 1) (by decide)⟩, ⟨rfl, vpi hLm hi hL2 (j := 2) (by decide)⟩, trivial⟩ ?_
    rw [sch]
    refine wp_call (b := false) (y' := 263) (as := [.ref 381, .int (mx_i h 1 (nI i + 1).toNatClampNeg), .int (mx_i h 1 (nI i + 2).toNatClampNeg)]) (rest := []) (P := ((mxT 381).1 = mxRc 263 ∧ mxG hm)) rfl (by with_unfolding_all rfl) ⟨congrArg Prod.fst sT_381, Gm⟩ (Nat.le_of_ble_eq_true rfl) (mx_wp.mono (fun o2 h2 q => ?_) (wp_dm (by decide : 500 ≤ 999) (wp_L (by decide +kernel) Gm (wp_S1 (post hm hmd)))))
    obtain ⟨ql, s2, b, rfl, an, bd, g2⟩ := q
    obtain ⟨et, el⟩ := hk b _ an
    have G2 := GS_G g2
    show mx_wp 1000 346 727 [some (.ref 1), some (.ref 100), some (.ref 381), some (.ref 391), some (.int (nI i)), some (.int kk), w6] [.int b] h2 Qf
    refine wp_steps (i' := 729) (ls' := [some (.ref 1), some (.ref 100), some (.ref 381), some (.ref 391), some (.int (nI i)), some (.int kk), some (.int b)]) (st' := [.ref 381]) (h' := h2) (P := True) 2 rfl rfl trivial ?_
    refine wp_call (b := false) (y' := 190) (as := [.ref 381]) (rest := []) (P := ((mxT 381).1 = mxRc 190 ∧ mxG h2)) rfl (by with_unfolding_all rfl) ⟨congrArg Prod.fst sT_381, G2⟩ (Nat.le_of_ble_eq_true rfl) (tr_190_0 G2 ?_)
    show mx_wp 1000 346 730 [some (.ref 1), some (.ref 100), some (.ref 381), some (.ref 391), some (.int (nI i)), some (.int kk), some (.int b)] [.int (mx_i h2 381 0)] h2 Qf
    rw [et]
    refine wp_steps (i' := 731) (ls' := [some (.ref 1), some (.ref 100), some (.ref 381), some (.ref 391), some (.int (nI i)), some (.int kk), some (.int b)]) (st' := [.int kk, .int kk]) (h' := h2) (P := True) 1 rfl rfl trivial ?_
    refine wp_br (P := True) (c := kk = kk) (t := 734) (st' := []) rfl rfl trivial (fun _ => ?_) (fun c => absurd rfl c)
    refine wp_steps (i' := 735) (ls' := [some (.ref 1), some (.ref 100), some (.ref 381), some (.ref 391), some (.int (nI i)), some (.int kk), some (.int b)]) (st' := [.int kk]) (h' := h2) (P := True) 1 rfl rfl trivial ?_
    refine wp_br (P := True) (c := ¬ kk = 0) (t := 745) (st' := []) rfl rfl trivial (fun _ => ?_) (fun c => ?_)
    · refine wp_J (j := 1565) (st' := []) rfl rfl ?_
      exact K h2 _ _ g2 bd (sc1_tr s1 (sc1_tr (sc1_mdl hmd) s2))
    · have c0 := el (Decidable.of_not_not c)
      rw [← ql] at c0
      refine wp_steps (i' := 742) (ls' := [some (.ref 1), some (.ref 100), some (.ref 381), some (.ref 391), some (.int (nI i)), some (.int kk), some (.int b)]) (st' := [.int (lg_cmp (mx_l h2 391 0) b.toInt64)]) (h' := h2) (P := (((mxT 391).1 = 52 ∧ mxG h2) ∧ vp_in 0 (mxT 391).2) ∧ True) 6 rfl rfl ⟨cA sT_391 G2 (vpl rfl), trivial⟩ ?_
      refine wp_br (P := True) (c := lg_cmp (mx_l h2 391 0) b.toInt64 = 0) (t := 745) (st' := []) rfl rfl trivial (fun _ => ?_) (fun c => absurd c0 c)
      refine wp_J (j := 1565) (st' := []) rfl rfl ?_
      exact K h2 _ _ g2 bd (sc1_tr s1 (sc1_tr (sc1_mdl hmd) s2))
  refine wp_steps (i' := 713) (ls' := [some (.ref 1), some (.ref 100), some (.ref 381), some (.ref 391), some (.int (nI i)), w5, w6]) (st' := [.ref 391, .int (mx_i h 1 (nI i + 2).toNatClampNeg), .int (mx_i h 1 (nI i + 1).toNatClampNeg), .ref 100]) (h' := h) (P := (1 = 1 ∧ vp_in (nI i + 1) (mx_r h 1 0)) ∧ (1 = 1 ∧ vp_in (nI i + 2) (mx_r h 1 0)) ∧ True) 12 rfl rfl ⟨⟨rfl, vpi hL hi hL2 (j := 1) (by decide)⟩, ⟨rfl, vpi hL hi hL2 (j := 2) (by decide)⟩, trivial⟩ ?_
  refine wp_call (b := false) (y' := 329) (as := [.ref 100, .int (mx_i h 1 (nI i + 1).toNatClampNeg), .int (mx_i h 1 (nI i + 2).toNatClampNeg), .ref 391]) (rest := []) (P := True) rfl (by with_unfolding_all rfl) trivial (Nat.le_of_ble_eq_true rfl) (wr_329 G (mx_wp.mono (fun o h1 q => ?_) (wp_dm (by decide : 500 ≤ 998) (wp_S1 (wp_G (by decide +kernel) G (O (mx_i h 1 (nI i + 1).toNatClampNeg) (mx_i h 1 (nI i + 2).toNatClampNeg) h vn vd vr vq np ns nl I))))))
  obtain ⟨s1, G1, post⟩ := q
  obtain ⟨n0, o20, h20, e0, b0, eb0, an0, r0⟩ := post h1 mdl_rfl
  refine ⟨G1, ?_⟩
  rcases ans_cases an0 with ⟨v, rfl, -, -⟩ | ⟨kx, rfl, -, q⟩
  · show mx_wp 1000 346 714 [some (.ref 1), some (.ref 100), some (.ref 381), some (.ref 391), some (.int (nI i)), w5, w6] [.int 0] (mx_wl h1 391 0 v.toInt64) Qf
    refine step _ h1 _ 0 G1 s1 post mdl_wl (fun b t a => ⟨a.1, fun _ => ?_⟩)
    have hvb : v = b := a.2
    rw [wl_at, hvb]; exact lgc _
  · refine ⟨code kx, hcs kx q, ?_⟩
    show mx_wp 1000 346 714 [some (.ref 1), some (.ref 100), some (.ref 381), some (.ref 391), some (.int (nI i)), w5, w6] [.int (code kx)] h1 Qf
    exact step _ h1 _ _ G1 s1 post mdl_rfl (fun b t a => ⟨a.1, fun e => absurd e q⟩)
set_option maxRecDepth 8000 in
theorem cs_19 {LW : mxLW} {h : mxH} {i L : Nat} {w5 w6 : Option Value} {Qf : mxO → mxH → Prop} {code : Nat → Int32} (O : ∀ x0 : Int32, Op LW 154 264 [.int x0] code) (hcs : ∀ k, code k ≠ 0 → (k, code k) ∈ ([(2, 1)] : List (Nat × Int32))) (g : GS LW h) (hL : mx_r h 1 0 = L) (hi : i + 6 ≤ L) (hL2 : L ≤ 3072) (K : ∀ (h2 : mxH) (w5 w6 : Option Value), GS LW h2 → bud h h2 → sc1 h h2 → mx_wp 1000 346 1565 [some (.ref 1), some (.ref 100), some (.ref 381), some (.ref 391), some (.int (nI i)), w5, w6] [] h2 Qf) : mx_wp 1000 346 746 [some (.ref 1), some (.ref 100), some (.ref 381), some (.ref 391), some (.int (nI i)), w5, w6] [] h Qf := by
  have G := GS_G g
  obtain ⟨vn, vd, vr, vq, np, ns, nl, I⟩ := g
  have step : ∀ (o : mxO) (h1 hm : mxH) (kk : Int32), mxG h1 → sc1 h h1 → (∀ hm, mdl h1 hm → mx_wp 500 264 0 (mx_fr 264 [.ref 381, .int (mx_i h 1 (nI i + 1).toNatClampNeg)]) [] hm (fun o2 h2 => ∃ b, o2 = .inl (some (.int b)) ∧ ansOk code o b (mx_i h2 381 0) ∧ bud h h2 ∧ GS LW h2)) → mdl h1 hm → (∀ b t, ansOk code o b t → t = kk ∧ (kk = 0 → lg_cmp (mx_l hm 391 0) b.toInt64 = 0)) → mx_wp 1000 346 754 [some (.ref 1), some (.ref 100), some (.ref 381), some (.ref 391), some (.int (nI i)), w5, w6] [.int kk] hm Qf := by
    intro o h1 hm kk G1 s1 post hmd hk
    have sch : mx_i hm 1 = mx_i h 1 := by rw [hmd.2.2.2.1]; exact s1.1
    have hLm : mx_r hm 1 0 = L := by rw [hmd.2.2.2.2, s1.2.1]; exact hL
    have Gm : mxG hm := agr_G (P := fun _ => False) (agr_mdl hmd) G1
    refine wp_steps (i' := 755) (ls' := [some (.ref 1), some (.ref 100), some (.ref 381), some (.ref 391), some (.int (nI i)), some (.int kk), w6]) (st' := []) (h' := hm) (P := True) 1 rfl rfl trivial ?_
    refine wp_steps (i' := 761) (ls' := [some (.ref 1), some (.ref 100), some (.ref 381), some (.ref 391), some (.int (nI i)), some (.int kk), w6]) (st' := [.int (mx_i hm 1 (nI i + 1).toNatClampNeg), .ref 381]) (h' := hm) (P := (1 = 1 ∧ vp_in (nI i + 1) (mx_r hm 1 0)) ∧ True) 6 rfl rfl ⟨⟨rfl, vpi hLm hi hL2 (j := 1) (by decide)⟩, trivial⟩ ?_
    rw [sch]
    refine wp_call (b := false) (y' := 264) (as := [.ref 381, .int (mx_i h 1 (nI i + 1).toNatClampNeg)]) (rest := []) (P := ((mxT 381).1 = mxRc 264 ∧ mxG hm)) rfl (by with_unfolding_all rfl) ⟨congrArg Prod.fst sT_381, Gm⟩ (Nat.le_of_ble_eq_true rfl) (mx_wp.mono (fun o2 h2 q => ?_) (wp_dm (by decide : 500 ≤ 999) (wp_L (by decide +kernel) Gm (wp_S1 (post hm hmd)))))
    obtain ⟨ql, s2, b, rfl, an, bd, g2⟩ := q
    obtain ⟨et, el⟩ := hk b _ an
    have G2 := GS_G g2
    show mx_wp 1000 346 762 [some (.ref 1), some (.ref 100), some (.ref 381), some (.ref 391), some (.int (nI i)), some (.int kk), w6] [.int b] h2 Qf
    refine wp_steps (i' := 764) (ls' := [some (.ref 1), some (.ref 100), some (.ref 381), some (.ref 391), some (.int (nI i)), some (.int kk), some (.int b)]) (st' := [.ref 381]) (h' := h2) (P := True) 2 rfl rfl trivial ?_
    refine wp_call (b := false) (y' := 190) (as := [.ref 381]) (rest := []) (P := ((mxT 381).1 = mxRc 190 ∧ mxG h2)) rfl (by with_unfolding_all rfl) ⟨congrArg Prod.fst sT_381, G2⟩ (Nat.le_of_ble_eq_true rfl) (tr_190_0 G2 ?_)
    show mx_wp 1000 346 765 [some (.ref 1), some (.ref 100), some (.ref 381), some (.ref 391), some (.int (nI i)), some (.int kk), some (.int b)] [.int (mx_i h2 381 0)] h2 Qf
    rw [et]
    refine wp_steps (i' := 766) (ls' := [some (.ref 1), some (.ref 100), some (.ref 381), some (.ref 391), some (.int (nI i)), some (.int kk), some (.int b)]) (st' := [.int kk, .int kk]) (h' := h2) (P := True) 1 rfl rfl trivial ?_
    refine wp_br (P := True) (c := kk = kk) (t := 769) (st' := []) rfl rfl trivial (fun _ => ?_) (fun c => absurd rfl c)
    refine wp_steps (i' := 770) (ls' := [some (.ref 1), some (.ref 100), some (.ref 381), some (.ref 391), some (.int (nI i)), some (.int kk), some (.int b)]) (st' := [.int kk]) (h' := h2) (P := True) 1 rfl rfl trivial ?_
    refine wp_br (P := True) (c := ¬ kk = 0) (t := 780) (st' := []) rfl rfl trivial (fun _ => ?_) (fun c => ?_)
    · refine wp_J (j := 1565) (st' := []) rfl rfl ?_
      exact K h2 _ _ g2 bd (sc1_tr s1 (sc1_tr (sc1_mdl hmd) s2))
    · have c0 := el (Decidable.of_not_not c)
      rw [← ql] at c0
      refine wp_steps (i' := 777) (ls' := [some (.ref 1), some (.ref 100), some (.ref 381), some (.ref 391), some (.int (nI i)), some (.int kk), some (.int b)]) (st' := [.int (lg_cmp (mx_l h2 391 0) b.toInt64)]) (h' := h2) (P := (((mxT 391).1 = 52 ∧ mxG h2) ∧ vp_in 0 (mxT 391).2) ∧ True) 6 rfl rfl ⟨cA sT_391 G2 (vpl rfl), trivial⟩ ?_
      refine wp_br (P := True) (c := lg_cmp (mx_l h2 391 0) b.toInt64 = 0) (t := 780) (st' := []) rfl rfl trivial (fun _ => ?_) (fun c => absurd c0 c)
      refine wp_J (j := 1565) (st' := []) rfl rfl ?_
      exact K h2 _ _ g2 bd (sc1_tr s1 (sc1_tr (sc1_mdl hmd) s2))
  refine wp_steps (i' := 753) (ls' := [some (.ref 1), some (.ref 100), some (.ref 381), some (.ref 391), some (.int (nI i)), w5, w6]) (st' := [.ref 391, .int (mx_i h 1 (nI i + 1).toNatClampNeg), .ref 100]) (h' := h) (P := (1 = 1 ∧ vp_in (nI i + 1) (mx_r h 1 0)) ∧ True) 7 rfl rfl ⟨⟨rfl, vpi hL hi hL2 (j := 1) (by decide)⟩, trivial⟩ ?_
  refine wp_call (b := false) (y' := 330) (as := [.ref 100, .int (mx_i h 1 (nI i + 1).toNatClampNeg), .ref 391]) (rest := []) (P := True) rfl (by with_unfolding_all rfl) trivial (Nat.le_of_ble_eq_true rfl) (wr_330 G (mx_wp.mono (fun o h1 q => ?_) (wp_dm (by decide : 500 ≤ 998) (wp_S1 (wp_G (by decide +kernel) G (O (mx_i h 1 (nI i + 1).toNatClampNeg) h vn vd vr vq np ns nl I))))))
  obtain ⟨s1, G1, post⟩ := q
  obtain ⟨n0, o20, h20, e0, b0, eb0, an0, r0⟩ := post h1 mdl_rfl
  refine ⟨G1, ?_⟩
  rcases ans_cases an0 with ⟨v, rfl, -, -⟩ | ⟨kx, rfl, -, q⟩
  · show mx_wp 1000 346 754 [some (.ref 1), some (.ref 100), some (.ref 381), some (.ref 391), some (.int (nI i)), w5, w6] [.int 0] (mx_wl h1 391 0 v.toInt64) Qf
    refine step _ h1 _ 0 G1 s1 post mdl_wl (fun b t a => ⟨a.1, fun _ => ?_⟩)
    have hvb : v = b := a.2
    rw [wl_at, hvb]; exact lgc _
  · refine ⟨code kx, hcs kx q, ?_⟩
    show mx_wp 1000 346 754 [some (.ref 1), some (.ref 100), some (.ref 381), some (.ref 391), some (.int (nI i)), w5, w6] [.int (code kx)] h1 Qf
    exact step _ h1 _ _ G1 s1 post mdl_rfl (fun b t a => ⟨a.1, fun e => absurd e q⟩)
set_option maxRecDepth 8000 in
theorem cs_20 {LW : mxLW} {h : mxH} {i L : Nat} {w5 w6 : Option Value} {Qf : mxO → mxH → Prop} {code : Nat → Int32} (O : ∀ x0 : Int32, Op LW 155 265 [.int x0] code) (hcs : ∀ k, code k ≠ 0 → (k, code k) ∈ ([(2, 1)] : List (Nat × Int32))) (g : GS LW h) (hL : mx_r h 1 0 = L) (hi : i + 6 ≤ L) (hL2 : L ≤ 3072) (K : ∀ (h2 : mxH) (w5 w6 : Option Value), GS LW h2 → bud h h2 → sc1 h h2 → mx_wp 1000 346 1565 [some (.ref 1), some (.ref 100), some (.ref 381), some (.ref 391), some (.int (nI i)), w5, w6] [] h2 Qf) : mx_wp 1000 346 781 [some (.ref 1), some (.ref 100), some (.ref 381), some (.ref 391), some (.int (nI i)), w5, w6] [] h Qf := by
  have G := GS_G g
  obtain ⟨vn, vd, vr, vq, np, ns, nl, I⟩ := g
  have step : ∀ (o : mxO) (h1 hm : mxH) (kk : Int32), mxG h1 → sc1 h h1 → (∀ hm, mdl h1 hm → mx_wp 500 265 0 (mx_fr 265 [.ref 381, .int (mx_i h 1 (nI i + 1).toNatClampNeg)]) [] hm (fun o2 h2 => ∃ b, o2 = .inl (some (.int b)) ∧ ansOk code o b (mx_i h2 381 0) ∧ bud h h2 ∧ GS LW h2)) → mdl h1 hm → (∀ b t, ansOk code o b t → t = kk ∧ (kk = 0 → lg_cmp (mx_l hm 391 0) (if b = 0 then Int64.ofNat 0 else Int64.ofNat 1) = 0)) → mx_wp 1000 346 789 [some (.ref 1), some (.ref 100), some (.ref 381), some (.ref 391), some (.int (nI i)), w5, w6] [.int kk] hm Qf := by
    intro o h1 hm kk G1 s1 post hmd hk
    have sch : mx_i hm 1 = mx_i h 1 := by rw [hmd.2.2.2.1]; exact s1.1
    have hLm : mx_r hm 1 0 = L := by rw [hmd.2.2.2.2, s1.2.1]; exact hL
    have Gm : mxG hm := agr_G (P := fun _ => False) (agr_mdl hmd) G1
    refine wp_steps (i' := 790) (ls' := [some (.ref 1), some (.ref 100), some (.ref 381), some (.ref 391), some (.int (nI i)), some (.int kk), w6]) (st' := []) (h' := hm) (P := True) 1 rfl rfl trivial ?_
    refine wp_steps (i' := 796) (ls' := [some (.ref 1), some (.ref 100), some (.ref 381), some (.ref 391), some (.int (nI i)), some (.int kk), w6]) (st' := [.int (mx_i hm 1 (nI i + 1).toNatClampNeg), .ref 381]) (h' := hm) (P := (1 = 1 ∧ vp_in (nI i + 1) (mx_r hm 1 0)) ∧ True) 6 rfl rfl ⟨⟨rfl, vpi hLm hi hL2 (j := 1) (by decide)⟩, trivial⟩ ?_
    rw [sch]
    refine wp_call (b := false) (y' := 265) (as := [.ref 381, .int (mx_i h 1 (nI i + 1).toNatClampNeg)]) (rest := []) (P := ((mxT 381).1 = mxRc 265 ∧ mxG hm)) rfl (by with_unfolding_all rfl) ⟨congrArg Prod.fst sT_381, Gm⟩ (Nat.le_of_ble_eq_true rfl) (mx_wp.mono (fun o2 h2 q => ?_) (wp_dm (by decide : 500 ≤ 999) (wp_L (by decide +kernel) Gm (wp_S1 (post hm hmd)))))
    obtain ⟨ql, s2, b, rfl, an, bd, g2⟩ := q
    obtain ⟨et, el⟩ := hk b _ an
    have G2 := GS_G g2
    show mx_wp 1000 346 797 [some (.ref 1), some (.ref 100), some (.ref 381), some (.ref 391), some (.int (nI i)), some (.int kk), w6] [.int b] h2 Qf
    refine wp_steps (i' := 799) (ls' := [some (.ref 1), some (.ref 100), some (.ref 381), some (.ref 391), some (.int (nI i)), some (.int kk), some (.int b)]) (st' := [.ref 381]) (h' := h2) (P := True) 2 rfl rfl trivial ?_
    refine wp_call (b := false) (y' := 190) (as := [.ref 381]) (rest := []) (P := ((mxT 381).1 = mxRc 190 ∧ mxG h2)) rfl (by with_unfolding_all rfl) ⟨congrArg Prod.fst sT_381, G2⟩ (Nat.le_of_ble_eq_true rfl) (tr_190_0 G2 ?_)
    show mx_wp 1000 346 800 [some (.ref 1), some (.ref 100), some (.ref 381), some (.ref 391), some (.int (nI i)), some (.int kk), some (.int b)] [.int (mx_i h2 381 0)] h2 Qf
    rw [et]
    refine wp_steps (i' := 801) (ls' := [some (.ref 1), some (.ref 100), some (.ref 381), some (.ref 391), some (.int (nI i)), some (.int kk), some (.int b)]) (st' := [.int kk, .int kk]) (h' := h2) (P := True) 1 rfl rfl trivial ?_
    refine wp_br (P := True) (c := kk = kk) (t := 804) (st' := []) rfl rfl trivial (fun _ => ?_) (fun c => absurd rfl c)
    refine wp_steps (i' := 805) (ls' := [some (.ref 1), some (.ref 100), some (.ref 381), some (.ref 391), some (.int (nI i)), some (.int kk), some (.int b)]) (st' := [.int kk]) (h' := h2) (P := True) 1 rfl rfl trivial ?_
    refine wp_br (P := True) (c := ¬ kk = 0) (t := 818) (st' := []) rfl rfl trivial (fun _ => ?_) (fun c => ?_)
    · refine wp_J (j := 1565) (st' := []) rfl rfl ?_
      exact K h2 _ _ g2 bd (sc1_tr s1 (sc1_tr (sc1_mdl hmd) s2))
    · have c0 := el (Decidable.of_not_not c)
      rw [← ql] at c0
      refine wp_steps (i' := 810) (ls' := [some (.ref 1), some (.ref 100), some (.ref 381), some (.ref 391), some (.int (nI i)), some (.int kk), some (.int b)]) (st' := [.int b, .long (mx_l h2 391 0)]) (h' := h2) (P := (((mxT 391).1 = 52 ∧ mxG h2) ∧ vp_in 0 (mxT 391).2) ∧ True) 4 rfl rfl ⟨cA sT_391 G2 (vpl rfl), trivial⟩ ?_
      refine wp_br (P := True) (c := b = 0) (t := 813) (st' := [.long (mx_l h2 391 0)]) rfl rfl trivial (fun cq => ?_) (fun cq => ?_)
      · simp only [if_pos cq] at c0
        refine wp_steps (i' := 815) (ls' := [some (.ref 1), some (.ref 100), some (.ref 381), some (.ref 391), some (.int (nI i)), some (.int kk), some (.int b)]) (st' := [.int (lg_cmp (mx_l h2 391 0) (Int64.ofNat 0))]) (h' := h2) (P := True) 2 rfl rfl trivial ?_
        refine wp_br (P := True) (c := lg_cmp (mx_l h2 391 0) (Int64.ofNat 0) = 0) (t := 818) (st' := []) rfl rfl trivial (fun _ => ?_) (fun c => absurd c0 c)
        refine wp_J (j := 1565) (st' := []) rfl rfl ?_
        exact K h2 _ _ g2 bd (sc1_tr s1 (sc1_tr (sc1_mdl hmd) s2))
      · simp only [if_neg cq] at c0
        refine wp_steps (i' := 812) (ls' := [some (.ref 1), some (.ref 100), some (.ref 381), some (.ref 391), some (.int (nI i)), some (.int kk), some (.int b)]) (st' := [.long (Int64.ofNat 1), .long (mx_l h2 391 0)]) (h' := h2) (P := True) 1 rfl rfl trivial ?_
        refine wp_J (j := 814) (st' := [.long (Int64.ofNat 1), .long (mx_l h2 391 0)]) rfl rfl ?_
        refine wp_steps (i' := 815) (ls' := [some (.ref 1), some (.ref 100), some (.ref 381), some (.ref 391), some (.int (nI i)), some (.int kk), some (.int b)]) (st' := [.int (lg_cmp (mx_l h2 391 0) (Int64.ofNat 1))]) (h' := h2) (P := True) 1 rfl rfl trivial ?_
        refine wp_br (P := True) (c := lg_cmp (mx_l h2 391 0) (Int64.ofNat 1) = 0) (t := 818) (st' := []) rfl rfl trivial (fun _ => ?_) (fun c => absurd c0 c)
        refine wp_J (j := 1565) (st' := []) rfl rfl ?_
        exact K h2 _ _ g2 bd (sc1_tr s1 (sc1_tr (sc1_mdl hmd) s2))
  refine wp_steps (i' := 788) (ls' := [some (.ref 1), some (.ref 100), some (.ref 381), some (.ref 391), some (.int (nI i)), w5, w6]) (st' := [.ref 391, .int (mx_i h 1 (nI i + 1).toNatClampNeg), .ref 100]) (h' := h) (P := (1 = 1 ∧ vp_in (nI i + 1) (mx_r h 1 0)) ∧ True) 7 rfl rfl ⟨⟨rfl, vpi hL hi hL2 (j := 1) (by decide)⟩, trivial⟩ ?_
  refine wp_call (b := false) (y' := 331) (as := [.ref 100, .int (mx_i h 1 (nI i + 1).toNatClampNeg), .ref 391]) (rest := []) (P := True) rfl (by with_unfolding_all rfl) trivial (Nat.le_of_ble_eq_true rfl) (wr_331 G (mx_wp.mono (fun o h1 q => ?_) (wp_dm (by decide : 500 ≤ 998) (wp_S1 (wp_G (by decide +kernel) G (O (mx_i h 1 (nI i + 1).toNatClampNeg) h vn vd vr vq np ns nl I))))))
  obtain ⟨s1, G1, post⟩ := q
  obtain ⟨n0, o20, h20, e0, b0, eb0, an0, r0⟩ := post h1 mdl_rfl
  refine ⟨G1, ?_⟩
  rcases ans_cases an0 with ⟨v, rfl, -, -⟩ | ⟨kx, rfl, -, q⟩
  · show mx_wp 1000 346 789 [some (.ref 1), some (.ref 100), some (.ref 381), some (.ref 391), some (.int (nI i)), w5, w6] [.int 0] (mx_wl h1 391 0 (if v = 0 then Int64.ofNat 0 else Int64.ofNat 1)) Qf
    refine step _ h1 _ 0 G1 s1 post mdl_wl (fun b t a => ⟨a.1, fun _ => ?_⟩)
    have hvb : v = b := a.2
    rw [wl_at, hvb]; exact lgc _
  · refine ⟨code kx, hcs kx q, ?_⟩
    show mx_wp 1000 346 789 [some (.ref 1), some (.ref 100), some (.ref 381), some (.ref 391), some (.int (nI i)), w5, w6] [.int (code kx)] h1 Qf
    exact step _ h1 _ _ G1 s1 post mdl_rfl (fun b t a => ⟨a.1, fun e => absurd e q⟩)
set_option maxRecDepth 8000 in
theorem cs_21 {LW : mxLW} {h : mxH} {i L : Nat} {w5 w6 : Option Value} {Qf : mxO → mxH → Prop} {code : Nat → Int32} (O : ∀ x0 : Int32, Op LW 156 266 [.int x0] code) (hcs : ∀ k, code k ≠ 0 → (k, code k) ∈ ([(2, 1)] : List (Nat × Int32))) (g : GS LW h) (hL : mx_r h 1 0 = L) (hi : i + 6 ≤ L) (hL2 : L ≤ 3072) (K : ∀ (h2 : mxH) (w5 w6 : Option Value), GS LW h2 → bud h h2 → sc1 h h2 → mx_wp 1000 346 1565 [some (.ref 1), some (.ref 100), some (.ref 381), some (.ref 391), some (.int (nI i)), w5, w6] [] h2 Qf) : mx_wp 1000 346 819 [some (.ref 1), some (.ref 100), some (.ref 381), some (.ref 391), some (.int (nI i)), w5, w6] [] h Qf := by
  have G := GS_G g
  obtain ⟨vn, vd, vr, vq, np, ns, nl, I⟩ := g
  have step : ∀ (o : mxO) (h1 hm : mxH) (kk : Int32), mxG h1 → sc1 h h1 → (∀ hm, mdl h1 hm → mx_wp 500 266 0 (mx_fr 266 [.ref 381, .int (mx_i h 1 (nI i + 1).toNatClampNeg)]) [] hm (fun o2 h2 => ∃ b, o2 = .inl (some (.int b)) ∧ ansOk code o b (mx_i h2 381 0) ∧ bud h h2 ∧ GS LW h2)) → mdl h1 hm → (∀ b t, ansOk code o b t → t = kk ∧ (kk = 0 → lg_cmp (mx_l hm 391 0) b.toInt64 = 0)) → mx_wp 1000 346 827 [some (.ref 1), some (.ref 100), some (.ref 381), some (.ref 391), some (.int (nI i)), w5, w6] [.int kk] hm Qf := by
    intro o h1 hm kk G1 s1 post hmd hk
    have sch : mx_i hm 1 = mx_i h 1 := by rw [hmd.2.2.2.1]; exact s1.1
    have hLm : mx_r hm 1 0 = L := by rw [hmd.2.2.2.2, s1.2.1]; exact hL
    have Gm : mxG hm := agr_G (P := fun _ => False) (agr_mdl hmd) G1
    refine wp_steps (i' := 828) (ls' := [some (.ref 1), some (.ref 100), some (.ref 381), some (.ref 391), some (.int (nI i)), some (.int kk), w6]) (st' := []) (h' := hm) (P := True) 1 rfl rfl trivial ?_
    refine wp_steps (i' := 834) (ls' := [some (.ref 1), some (.ref 100), some (.ref 381), some (.ref 391), some (.int (nI i)), some (.int kk), w6]) (st' := [.int (mx_i hm 1 (nI i + 1).toNatClampNeg), .ref 381]) (h' := hm) (P := (1 = 1 ∧ vp_in (nI i + 1) (mx_r hm 1 0)) ∧ True) 6 rfl rfl ⟨⟨rfl, vpi hLm hi hL2 (j := 1) (by decide)⟩, trivial⟩ ?_
    rw [sch]
    refine wp_call (b := false) (y' := 266) (as := [.ref 381, .int (mx_i h 1 (nI i + 1).toNatClampNeg)]) (rest := []) (P := ((mxT 381).1 = mxRc 266 ∧ mxG hm)) rfl (by with_unfolding_all rfl) ⟨congrArg Prod.fst sT_381, Gm⟩ (Nat.le_of_ble_eq_true rfl) (mx_wp.mono (fun o2 h2 q => ?_) (wp_dm (by decide : 500 ≤ 999) (wp_L (by decide +kernel) Gm (wp_S1 (post hm hmd)))))
    obtain ⟨ql, s2, b, rfl, an, bd, g2⟩ := q
    obtain ⟨et, el⟩ := hk b _ an
    have G2 := GS_G g2
    show mx_wp 1000 346 835 [some (.ref 1), some (.ref 100), some (.ref 381), some (.ref 391), some (.int (nI i)), some (.int kk), w6] [.int b] h2 Qf
    refine wp_steps (i' := 837) (ls' := [some (.ref 1), some (.ref 100), some (.ref 381), some (.ref 391), some (.int (nI i)), some (.int kk), some (.int b)]) (st' := [.ref 381]) (h' := h2) (P := True) 2 rfl rfl trivial ?_
    refine wp_call (b := false) (y' := 190) (as := [.ref 381]) (rest := []) (P := ((mxT 381).1 = mxRc 190 ∧ mxG h2)) rfl (by with_unfolding_all rfl) ⟨congrArg Prod.fst sT_381, G2⟩ (Nat.le_of_ble_eq_true rfl) (tr_190_0 G2 ?_)
    show mx_wp 1000 346 838 [some (.ref 1), some (.ref 100), some (.ref 381), some (.ref 391), some (.int (nI i)), some (.int kk), some (.int b)] [.int (mx_i h2 381 0)] h2 Qf
    rw [et]
    refine wp_steps (i' := 839) (ls' := [some (.ref 1), some (.ref 100), some (.ref 381), some (.ref 391), some (.int (nI i)), some (.int kk), some (.int b)]) (st' := [.int kk, .int kk]) (h' := h2) (P := True) 1 rfl rfl trivial ?_
    refine wp_br (P := True) (c := kk = kk) (t := 842) (st' := []) rfl rfl trivial (fun _ => ?_) (fun c => absurd rfl c)
    refine wp_steps (i' := 843) (ls' := [some (.ref 1), some (.ref 100), some (.ref 381), some (.ref 391), some (.int (nI i)), some (.int kk), some (.int b)]) (st' := [.int kk]) (h' := h2) (P := True) 1 rfl rfl trivial ?_
    refine wp_br (P := True) (c := ¬ kk = 0) (t := 853) (st' := []) rfl rfl trivial (fun _ => ?_) (fun c => ?_)
    · refine wp_J (j := 1565) (st' := []) rfl rfl ?_
      exact K h2 _ _ g2 bd (sc1_tr s1 (sc1_tr (sc1_mdl hmd) s2))
    · have c0 := el (Decidable.of_not_not c)
      rw [← ql] at c0
      refine wp_steps (i' := 850) (ls' := [some (.ref 1), some (.ref 100), some (.ref 381), some (.ref 391), some (.int (nI i)), some (.int kk), some (.int b)]) (st' := [.int (lg_cmp (mx_l h2 391 0) b.toInt64)]) (h' := h2) (P := (((mxT 391).1 = 52 ∧ mxG h2) ∧ vp_in 0 (mxT 391).2) ∧ True) 6 rfl rfl ⟨cA sT_391 G2 (vpl rfl), trivial⟩ ?_
      refine wp_br (P := True) (c := lg_cmp (mx_l h2 391 0) b.toInt64 = 0) (t := 853) (st' := []) rfl rfl trivial (fun _ => ?_) (fun c => absurd c0 c)
      refine wp_J (j := 1565) (st' := []) rfl rfl ?_
      exact K h2 _ _ g2 bd (sc1_tr s1 (sc1_tr (sc1_mdl hmd) s2))
  refine wp_steps (i' := 826) (ls' := [some (.ref 1), some (.ref 100), some (.ref 381), some (.ref 391), some (.int (nI i)), w5, w6]) (st' := [.ref 391, .int (mx_i h 1 (nI i + 1).toNatClampNeg), .ref 100]) (h' := h) (P := (1 = 1 ∧ vp_in (nI i + 1) (mx_r h 1 0)) ∧ True) 7 rfl rfl ⟨⟨rfl, vpi hL hi hL2 (j := 1) (by decide)⟩, trivial⟩ ?_
  refine wp_call (b := false) (y' := 332) (as := [.ref 100, .int (mx_i h 1 (nI i + 1).toNatClampNeg), .ref 391]) (rest := []) (P := True) rfl (by with_unfolding_all rfl) trivial (Nat.le_of_ble_eq_true rfl) (wr_332 G (mx_wp.mono (fun o h1 q => ?_) (wp_dm (by decide : 500 ≤ 998) (wp_S1 (wp_G (by decide +kernel) G (O (mx_i h 1 (nI i + 1).toNatClampNeg) h vn vd vr vq np ns nl I))))))
  obtain ⟨s1, G1, post⟩ := q
  obtain ⟨n0, o20, h20, e0, b0, eb0, an0, r0⟩ := post h1 mdl_rfl
  refine ⟨G1, ?_⟩
  rcases ans_cases an0 with ⟨v, rfl, -, -⟩ | ⟨kx, rfl, -, q⟩
  · show mx_wp 1000 346 827 [some (.ref 1), some (.ref 100), some (.ref 381), some (.ref 391), some (.int (nI i)), w5, w6] [.int 0] (mx_wl h1 391 0 v.toInt64) Qf
    refine step _ h1 _ 0 G1 s1 post mdl_wl (fun b t a => ⟨a.1, fun _ => ?_⟩)
    have hvb : v = b := a.2
    rw [wl_at, hvb]; exact lgc _
  · refine ⟨code kx, hcs kx q, ?_⟩
    show mx_wp 1000 346 827 [some (.ref 1), some (.ref 100), some (.ref 381), some (.ref 391), some (.int (nI i)), w5, w6] [.int (code kx)] h1 Qf
    exact step _ h1 _ _ G1 s1 post mdl_rfl (fun b t a => ⟨a.1, fun e => absurd e q⟩)
set_option maxRecDepth 8000 in
theorem cs_22 {LW : mxLW} {h : mxH} {i L : Nat} {w5 w6 : Option Value} {Qf : mxO → mxH → Prop} {code : Nat → Int32} (O : ∀ x0 x1 : Int32, Op LW 157 270 [.int x0, .int x1] code) (hcs : ∀ k, code k ≠ 0 → (k, code k) ∈ ([(2, 1)] : List (Nat × Int32))) (g : GS LW h) (hL : mx_r h 1 0 = L) (hi : i + 6 ≤ L) (hL2 : L ≤ 3072) (K : ∀ (h2 : mxH) (w5 w6 : Option Value), GS LW h2 → bud h h2 → sc1 h h2 → mx_wp 1000 346 1565 [some (.ref 1), some (.ref 100), some (.ref 381), some (.ref 391), some (.int (nI i)), w5, w6] [] h2 Qf) : mx_wp 1000 346 854 [some (.ref 1), some (.ref 100), some (.ref 381), some (.ref 391), some (.int (nI i)), w5, w6] [] h Qf := by
  have G := GS_G g
  obtain ⟨vn, vd, vr, vq, np, ns, nl, I⟩ := g
  have step : ∀ (o : mxO) (h1 hm : mxH) (kk : Int32), mxG h1 → sc1 h h1 → (∀ hm, mdl h1 hm → mx_wp 500 270 0 (mx_fr 270 [.ref 381, .int (mx_i h 1 (nI i + 1).toNatClampNeg), .int (mx_i h 1 (nI i + 2).toNatClampNeg)]) [] hm (fun o2 h2 => ∃ b, o2 = .inl (some (.int b)) ∧ ansOk code o b (mx_i h2 381 0) ∧ bud h h2 ∧ GS LW h2)) → mdl h1 hm → (∀ b t, ansOk code o b t → t = kk ∧ (kk = 0 → lg_cmp (mx_l hm 391 0) b.toInt64 = 0)) → mx_wp 1000 346 867 [some (.ref 1), some (.ref 100), some (.ref 381), some (.ref 391), some (.int (nI i)), w5, w6] [.int kk] hm Qf := by
    intro o h1 hm kk G1 s1 post hmd hk
    have sch : mx_i hm 1 = mx_i h 1 := by rw [hmd.2.2.2.1]; exact s1.1
    have hLm : mx_r hm 1 0 = L := by rw [hmd.2.2.2.2, s1.2.1]; exact hL
    have Gm : mxG hm := agr_G (P := fun _ => False) (agr_mdl hmd) G1
    refine wp_steps (i' := 868) (ls' := [some (.ref 1), some (.ref 100), some (.ref 381), some (.ref 391), some (.int (nI i)), some (.int kk), w6]) (st' := []) (h' := hm) (P := True) 1 rfl rfl trivial ?_
    refine wp_steps (i' := 879) (ls' := [some (.ref 1), some (.ref 100), some (.ref 381), some (.ref 391), some (.int (nI i)), some (.int kk), w6]) (st' := [.int (mx_i hm 1 (nI i + 2).toNatClampNeg), .int (mx_i hm 1 (nI i + 1).toNatClampNeg), .ref 381]) (h' := hm) (P := (1 = 1 ∧ vp_in (nI i + 1) (mx_r hm 1 0)) ∧ (1 = 1 ∧ vp_in (nI i + 2) (mx_r hm 1 0)) ∧ True) 11 rfl rfl ⟨⟨rfl, vpi hLm hi hL2 (j := 1) (by decide)⟩, ⟨rfl, vpi hLm hi hL2 (j := 2) (by decide)⟩, trivial⟩ ?_
    rw [sch]
    refine wp_call (b := false) (y' := 270) (as := [.ref 381, .int (mx_i h 1 (nI i + 1).toNatClampNeg), .int (mx_i h 1 (nI i + 2).toNatClampNeg)]) (rest := []) (P := ((mxT 381).1 = mxRc 270 ∧ mxG hm)) rfl (by with_unfolding_all rfl) ⟨congrArg Prod.fst sT_381, Gm⟩ (Nat.le_of_ble_eq_true rfl) (mx_wp.mono (fun o2 h2 q => ?_) (wp_dm (by decide : 500 ≤ 999) (wp_L (by decide +kernel) Gm (wp_S1 (post hm hmd)))))
    obtain ⟨ql, s2, b, rfl, an, bd, g2⟩ := q
    obtain ⟨et, el⟩ := hk b _ an
    have G2 := GS_G g2
    show mx_wp 1000 346 880 [some (.ref 1), some (.ref 100), some (.ref 381), some (.ref 391), some (.int (nI i)), some (.int kk), w6] [.int b] h2 Qf
    refine wp_steps (i' := 882) (ls' := [some (.ref 1), some (.ref 100), some (.ref 381), some (.ref 391), some (.int (nI i)), some (.int kk), some (.int b)]) (st' := [.ref 381]) (h' := h2) (P := True) 2 rfl rfl trivial ?_
    refine wp_call (b := false) (y' := 190) (as := [.ref 381]) (rest := []) (P := ((mxT 381).1 = mxRc 190 ∧ mxG h2)) rfl (by with_unfolding_all rfl) ⟨congrArg Prod.fst sT_381, G2⟩ (Nat.le_of_ble_eq_true rfl) (tr_190_0 G2 ?_)
    show mx_wp 1000 346 883 [some (.ref 1), some (.ref 100), some (.ref 381), some (.ref 391), some (.int (nI i)), some (.int kk), some (.int b)] [.int (mx_i h2 381 0)] h2 Qf
    rw [et]
    refine wp_steps (i' := 884) (ls' := [some (.ref 1), some (.ref 100), some (.ref 381), some (.ref 391), some (.int (nI i)), some (.int kk), some (.int b)]) (st' := [.int kk, .int kk]) (h' := h2) (P := True) 1 rfl rfl trivial ?_
    refine wp_br (P := True) (c := kk = kk) (t := 887) (st' := []) rfl rfl trivial (fun _ => ?_) (fun c => absurd rfl c)
    refine wp_steps (i' := 888) (ls' := [some (.ref 1), some (.ref 100), some (.ref 381), some (.ref 391), some (.int (nI i)), some (.int kk), some (.int b)]) (st' := [.int kk]) (h' := h2) (P := True) 1 rfl rfl trivial ?_
    refine wp_br (P := True) (c := ¬ kk = 0) (t := 898) (st' := []) rfl rfl trivial (fun _ => ?_) (fun c => ?_)
    · refine wp_J (j := 1565) (st' := []) rfl rfl ?_
      exact K h2 _ _ g2 bd (sc1_tr s1 (sc1_tr (sc1_mdl hmd) s2))
    · have c0 := el (Decidable.of_not_not c)
      rw [← ql] at c0
      refine wp_steps (i' := 895) (ls' := [some (.ref 1), some (.ref 100), some (.ref 381), some (.ref 391), some (.int (nI i)), some (.int kk), some (.int b)]) (st' := [.int (lg_cmp (mx_l h2 391 0) b.toInt64)]) (h' := h2) (P := (((mxT 391).1 = 52 ∧ mxG h2) ∧ vp_in 0 (mxT 391).2) ∧ True) 6 rfl rfl ⟨cA sT_391 G2 (vpl rfl), trivial⟩ ?_
      refine wp_br (P := True) (c := lg_cmp (mx_l h2 391 0) b.toInt64 = 0) (t := 898) (st' := []) rfl rfl trivial (fun _ => ?_) (fun c => absurd c0 c)
      refine wp_J (j := 1565) (st' := []) rfl rfl ?_
      exact K h2 _ _ g2 bd (sc1_tr s1 (sc1_tr (sc1_mdl hmd) s2))
  refine wp_steps (i' := 866) (ls' := [some (.ref 1), some (.ref 100), some (.ref 381), some (.ref 391), some (.int (nI i)), w5, w6]) (st' := [.ref 391, .int (mx_i h 1 (nI i + 2).toNatClampNeg), .int (mx_i h 1 (nI i + 1).toNatClampNeg), .ref 100]) (h' := h) (P := (1 = 1 ∧ vp_in (nI i + 1) (mx_r h 1 0)) ∧ (1 = 1 ∧ vp_in (nI i + 2) (mx_r h 1 0)) ∧ True) 12 rfl rfl ⟨⟨rfl, vpi hL hi hL2 (j := 1) (by decide)⟩, ⟨rfl, vpi hL hi hL2 (j := 2) (by decide)⟩, trivial⟩ ?_
  refine wp_call (b := false) (y' := 333) (as := [.ref 100, .int (mx_i h 1 (nI i + 1).toNatClampNeg), .int (mx_i h 1 (nI i + 2).toNatClampNeg), .ref 391]) (rest := []) (P := True) rfl (by with_unfolding_all rfl) trivial (Nat.le_of_ble_eq_true rfl) (wr_333 G (mx_wp.mono (fun o h1 q => ?_) (wp_dm (by decide : 500 ≤ 998) (wp_S1 (wp_G (by decide +kernel) G (O (mx_i h 1 (nI i + 1).toNatClampNeg) (mx_i h 1 (nI i + 2).toNatClampNeg) h vn vd vr vq np ns nl I))))))
  obtain ⟨s1, G1, post⟩ := q
  obtain ⟨n0, o20, h20, e0, b0, eb0, an0, r0⟩ := post h1 mdl_rfl
  refine ⟨G1, ?_⟩
  rcases ans_cases an0 with ⟨v, rfl, -, -⟩ | ⟨kx, rfl, -, q⟩
  · show mx_wp 1000 346 867 [some (.ref 1), some (.ref 100), some (.ref 381), some (.ref 391), some (.int (nI i)), w5, w6] [.int 0] (mx_wl h1 391 0 v.toInt64) Qf
    refine step _ h1 _ 0 G1 s1 post mdl_wl (fun b t a => ⟨a.1, fun _ => ?_⟩)
    have hvb : v = b := a.2
    rw [wl_at, hvb]; exact lgc _
  · refine ⟨code kx, hcs kx q, ?_⟩
    show mx_wp 1000 346 867 [some (.ref 1), some (.ref 100), some (.ref 381), some (.ref 391), some (.int (nI i)), w5, w6] [.int (code kx)] h1 Qf
    exact step _ h1 _ _ G1 s1 post mdl_rfl (fun b t a => ⟨a.1, fun e => absurd e q⟩)
set_option maxRecDepth 8000 in
theorem cs_23 {LW : mxLW} {h : mxH} {i L : Nat} {w5 w6 : Option Value} {Qf : mxO → mxH → Prop} {code : Nat → Int32} (O : Op LW 158 272 [] code) (hcode : ∀ k, code k = 0) (g : GS LW h) (hL : mx_r h 1 0 = L) (hi : i + 6 ≤ L) (hL2 : L ≤ 3072) (K : ∀ (h2 : mxH) (w5 w6 : Option Value), GS LW h2 → bud h h2 → sc1 h h2 → mx_wp 1000 346 1565 [some (.ref 1), some (.ref 100), some (.ref 381), some (.ref 391), some (.int (nI i)), w5, w6] [] h2 Qf) : mx_wp 1000 346 899 [some (.ref 1), some (.ref 100), some (.ref 381), some (.ref 391), some (.int (nI i)), w5, w6] [] h Qf := by
  have G := GS_G g
  obtain ⟨vn, vd, vr, vq, np, ns, nl, I⟩ := g
  refine wp_steps (i' := 900) (ls' := [some (.ref 1), some (.ref 100), some (.ref 381), some (.ref 391), some (.int (nI i)), w5, w6]) (st' := [.ref 100]) (h' := h) (P := True) 1 rfl rfl trivial ?_
  refine wp_call (b := false) (y' := 158) (as := [.ref 100]) (rest := []) (P := ((mxT 100).1 = mxRc 158 ∧ mxG h)) rfl (by with_unfolding_all rfl) ⟨congrArg Prod.fst sT_100, G⟩ (Nat.le_of_ble_eq_true rfl) (mx_wp.mono (fun o h1 q => ?_) (wp_dm (by decide : 500 ≤ 999) (wp_S1 (wp_G (by decide +kernel) G (O  h vn vd vr vq np ns nl I)))))
  obtain ⟨s1, G1, post⟩ := q
  obtain ⟨n0, o20, h20, e0, b0, eb0, an0, r0⟩ := post h1 mdl_rfl
  rcases ans_cases an0 with ⟨v, rfl, -, -⟩ | ⟨kx, -, -, q⟩
  rotate_left
  · exact absurd (hcode kx) q
  show mx_wp 1000 346 901 [some (.ref 1), some (.ref 100), some (.ref 381), some (.ref 391), some (.int (nI i)), w5, w6] [.int v] h1 Qf
  have hL1 : mx_r h1 1 0 = L := by rw [s1.2.1]; exact hL
  have sch : mx_i h1 1 = mx_i h 1 := s1.1
  refine wp_steps (i' := 902) (ls' := [some (.ref 1), some (.ref 100), some (.ref 381), some (.ref 391), some (.int (nI i)), w5, w6]) (st' := [.ref 381, .int v]) (h' := h1) (P := True) 1 rfl rfl trivial ?_
  skip
  refine wp_call (b := false) (y' := 272) (as := [.ref 381]) (rest := [.int v]) (P := ((mxT 381).1 = mxRc 272 ∧ mxG h1)) rfl (by with_unfolding_all rfl) ⟨congrArg Prod.fst sT_381, G1⟩ (Nat.le_of_ble_eq_true rfl) (mx_wp.mono (fun o h2 q => ?_) (wp_dm (by decide : 500 ≤ 999) (wp_S1 (post h1 mdl_rfl))))
  obtain ⟨s2, b, rfl, an, bd, g2⟩ := q
  have evb : v = b := an.2
  show mx_wp 1000 346 903 [some (.ref 1), some (.ref 100), some (.ref 381), some (.ref 391), some (.int (nI i)), w5, w6] [.int b, .int v] h2 Qf
  refine wp_br (P := True) (c := v = b) (t := 1565) (st' := []) rfl rfl trivial (fun _ => ?_) (fun c => absurd evb c)
  exact K h2 _ _ g2 bd (sc1_tr s1 s2)
