/-! THE LAW'S CASES -/
def GS (LW : mxLW) (h : mxH) : Prop := ∃ vn vd vr vq np ns nl, Inv LW h vn vd vr vq np ns nl
theorem GS_G {LW : mxLW} {h : mxH} (g : GS LW h) : mxG h := by obtain ⟨a, b, c, d, e, f, q, I⟩ := g; exact I.1
theorem mdl_rfl {h : mxH} : mdl h h := ⟨rfl, rfl, rfl, rfl, rfl⟩
theorem mdl_wl {h : mxH} {v : Int64} : mdl h (mx_wl h 391 0 v) := ⟨rfl, rfl, rfl, rfl, rfl⟩
theorem lgc (x : Int64) : lg_cmp x x = 0 := by
  unfold lg_cmp
  rw [if_neg (by simp), if_pos rfl]
theorem wl_at {h : mxH} {v : Int64} : mx_l (mx_wl h 391 0 v) 391 0 = v := by
  show mx_up (mx_l h) 391 0 v 391 0 = v
  unfold mx_up
  rw [if_pos ⟨rfl, rfl⟩]
theorem vpi {h : mxH} {i L j : Nat} {k : Int32} (hL : mx_r h 1 0 = L) (hi : i + 6 ≤ L) (hL2 : L ≤ 3072) (hj : j < 6) (hk : k = nI j := by rfl) : vp_in (nI i + k) (mx_r h 1 0) := by
  rw [hL, hk, nI_add]
  exact vp_in_nI (by omega) (by omega)
/-- an answer, or an exception that is told -/
theorem ans_cases {code : Nat → Int32} {o : mxO} {b t : Int32} (a : ansOk code o b t) : (∃ v, o = .inl (some (.int v)) ∧ t = 0 ∧ v = b) ∨ ∃ k, o = .inr k ∧ t = code k ∧ code k ≠ 0 := by
  unfold ansOk at a
  split at a
  · exact .inl ⟨_, rfl, a⟩
  · exact .inr ⟨_, rfl, a⟩
  · exact absurd a (fun e => e)
set_option maxRecDepth 8000 in
theorem cs_4 {LW : mxLW} {h : mxH} {i L : Nat} {w5 w6 : Option Value} {Qf : mxO → mxH → Prop} {code : Nat → Int32} (O : Op LW 136 236 [] code) (hcode : ∀ k, code k = 0) (g : GS LW h) (hL : mx_r h 1 0 = L) (hi : i + 6 ≤ L) (hL2 : L ≤ 3072) (K : ∀ (h2 : mxH) (w5 w6 : Option Value), GS LW h2 → bud h h2 → sc1 h h2 → mx_wp 1000 346 1565 [some (.ref 1), some (.ref 100), some (.ref 381), some (.ref 391), some (.int (nI i)), w5, w6] [] h2 Qf) : mx_wp 1000 346 149 [some (.ref 1), some (.ref 100), some (.ref 381), some (.ref 391), some (.int (nI i)), w5, w6] [] h Qf := by
  have G := GS_G g
  obtain ⟨vn, vd, vr, vq, np, ns, nl, I⟩ := g
  refine wp_steps (i' := 150) (ls' := [some (.ref 1), some (.ref 100), some (.ref 381), some (.ref 391), some (.int (nI i)), w5, w6]) (st' := [.ref 100]) (h' := h) (P := True) 1 rfl rfl trivial ?_
  refine wp_call (b := false) (y' := 136) (as := [.ref 100]) (rest := []) (P := ((mxT 100).1 = mxRc 136 ∧ mxG h)) rfl (by with_unfolding_all rfl) ⟨congrArg Prod.fst sT_100, G⟩ (Nat.le_of_ble_eq_true rfl) (mx_wp.mono (fun o h1 q => ?_) (wp_dm (by decide : 500 ≤ 999) (wp_S1 (wp_G (by decide +kernel) G (O  h vn vd vr vq np ns nl I)))))
  obtain ⟨s1, G1, post⟩ := q
  obtain ⟨n0, o20, h20, e0, b0, eb0, an0, r0⟩ := post h1 mdl_rfl
  rcases ans_cases an0 with ⟨v, rfl, -, -⟩ | ⟨kx, -, -, q⟩
  rotate_left
  · exact absurd (hcode kx) q
  show mx_wp 1000 346 151 [some (.ref 1), some (.ref 100), some (.ref 381), some (.ref 391), some (.int (nI i)), w5, w6] [.int v] h1 Qf
  have hL1 : mx_r h1 1 0 = L := by rw [s1.2]; exact hL
  have sch : mx_i h1 1 = mx_i h 1 := s1.1
  refine wp_steps (i' := 152) (ls' := [some (.ref 1), some (.ref 100), some (.ref 381), some (.ref 391), some (.int (nI i)), w5, w6]) (st' := [.ref 381, .int v]) (h' := h1) (P := True) 1 rfl rfl trivial ?_
  skip
  refine wp_call (b := false) (y' := 236) (as := [.ref 381]) (rest := [.int v]) (P := ((mxT 381).1 = mxRc 236 ∧ mxG h1)) rfl (by with_unfolding_all rfl) ⟨congrArg Prod.fst sT_381, G1⟩ (Nat.le_of_ble_eq_true rfl) (mx_wp.mono (fun o h2 q => ?_) (wp_dm (by decide : 500 ≤ 999) (wp_S1 (post h1 mdl_rfl))))
  obtain ⟨s2, b, rfl, an, bd, g2⟩ := q
  have evb : v = b := an.2
  show mx_wp 1000 346 153 [some (.ref 1), some (.ref 100), some (.ref 381), some (.ref 391), some (.int (nI i)), w5, w6] [.int b, .int v] h2 Qf
  refine wp_br (P := True) (c := v = b) (t := 1565) (st' := []) rfl rfl trivial (fun _ => ?_) (fun c => absurd evb c)
  exact K h2 _ _ g2 bd (sc1_tr s1 s2)
set_option maxRecDepth 8000 in
theorem cs_5 {LW : mxLW} {h : mxH} {i L : Nat} {w5 w6 : Option Value} {Qf : mxO → mxH → Prop} {code : Nat → Int32} (O : ∀ x0 x1 : Int32, Op LW 138 244 [.int x0, .int x1] code) (hcs : ∀ k, code k ≠ 0 → (k, code k) ∈ ([(2, 1), (3, 2)] : List (Nat × Int32))) (g : GS LW h) (hL : mx_r h 1 0 = L) (hi : i + 6 ≤ L) (hL2 : L ≤ 3072) (K : ∀ (h2 : mxH) (w5 w6 : Option Value), GS LW h2 → bud h h2 → sc1 h h2 → mx_wp 1000 346 1565 [some (.ref 1), some (.ref 100), some (.ref 381), some (.ref 391), some (.int (nI i)), w5, w6] [] h2 Qf) : mx_wp 1000 346 156 [some (.ref 1), some (.ref 100), some (.ref 381), some (.ref 391), some (.int (nI i)), w5, w6] [] h Qf := by
  have G := GS_G g
  obtain ⟨vn, vd, vr, vq, np, ns, nl, I⟩ := g
  have step : ∀ (o : mxO) (h1 hm : mxH) (kk : Int32), mxG h1 → sc1 h h1 → (∀ hm, mdl h1 hm → mx_wp 500 244 0 (mx_fr 244 [.ref 381, .int (mx_i h 1 (nI i + 1).toNatClampNeg), .int (mx_i h 1 (nI i + 2).toNatClampNeg)]) [] hm (fun o2 h2 => ∃ b, o2 = .inl (some (.int b)) ∧ ansOk code o b (mx_i h2 381 0) ∧ bud h h2 ∧ GS LW h2)) → mdl h1 hm → (∀ b t, ansOk code o b t → t = kk ∧ (kk = 0 → lg_cmp (mx_l hm 391 0) b.toInt64 = 0)) → mx_wp 1000 346 169 [some (.ref 1), some (.ref 100), some (.ref 381), some (.ref 391), some (.int (nI i)), w5, w6] [.int kk] hm Qf := by
    intro o h1 hm kk G1 s1 post hmd hk
    have sch : mx_i hm 1 = mx_i h 1 := by rw [hmd.2.2.2.1]; exact s1.1
    have hLm : mx_r hm 1 0 = L := by rw [hmd.2.2.2.2, s1.2]; exact hL
    have Gm : mxG hm := agr_G (P := fun _ => False) (agr_mdl hmd) G1
    refine wp_steps (i' := 170) (ls' := [some (.ref 1), some (.ref 100), some (.ref 381), some (.ref 391), some (.int (nI i)), some (.int kk), w6]) (st' := []) (h' := hm) (P := True) 1 rfl rfl trivial ?_
    refine wp_steps (i' := 181) (ls' := [some (.ref 1), some (.ref 100), some (.ref 381), some (.ref 391), some (.int (nI i)), some (.int kk), w6]) (st' := [.int (mx_i hm 1 (nI i + 2).toNatClampNeg), .int (mx_i hm 1 (nI i + 1).toNatClampNeg), .ref 381]) (h' := hm) (P := (1 = 1 ∧ vp_in (nI i + 1) (mx_r hm 1 0)) ∧ (1 = 1 ∧ vp_in (nI i + 2) (mx_r hm 1 0)) ∧ True) 11 rfl rfl ⟨⟨rfl, vpi hLm hi hL2 (j := 1) (by decide)⟩, ⟨rfl, vpi hLm hi hL2 (j := 2) (by decide)⟩, trivial⟩ ?_
    rw [sch]
    refine wp_call (b := false) (y' := 244) (as := [.ref 381, .int (mx_i h 1 (nI i + 1).toNatClampNeg), .int (mx_i h 1 (nI i + 2).toNatClampNeg)]) (rest := []) (P := ((mxT 381).1 = mxRc 244 ∧ mxG hm)) rfl (by with_unfolding_all rfl) ⟨congrArg Prod.fst sT_381, Gm⟩ (Nat.le_of_ble_eq_true rfl) (mx_wp.mono (fun o2 h2 q => ?_) (wp_dm (by decide : 500 ≤ 999) (wp_L (by decide +kernel) Gm (wp_S1 (post hm hmd)))))
    obtain ⟨ql, s2, b, rfl, an, bd, g2⟩ := q
    obtain ⟨et, el⟩ := hk b _ an
    have G2 := GS_G g2
    show mx_wp 1000 346 182 [some (.ref 1), some (.ref 100), some (.ref 381), some (.ref 391), some (.int (nI i)), some (.int kk), w6] [.int b] h2 Qf
    refine wp_steps (i' := 184) (ls' := [some (.ref 1), some (.ref 100), some (.ref 381), some (.ref 391), some (.int (nI i)), some (.int kk), some (.int b)]) (st' := [.ref 381]) (h' := h2) (P := True) 2 rfl rfl trivial ?_
    refine wp_call (b := false) (y' := 190) (as := [.ref 381]) (rest := []) (P := ((mxT 381).1 = mxRc 190 ∧ mxG h2)) rfl (by with_unfolding_all rfl) ⟨congrArg Prod.fst sT_381, G2⟩ (Nat.le_of_ble_eq_true rfl) (tr_190_0 G2 ?_)
    show mx_wp 1000 346 185 [some (.ref 1), some (.ref 100), some (.ref 381), some (.ref 391), some (.int (nI i)), some (.int kk), some (.int b)] [.int (mx_i h2 381 0)] h2 Qf
    rw [et]
    refine wp_steps (i' := 186) (ls' := [some (.ref 1), some (.ref 100), some (.ref 381), some (.ref 391), some (.int (nI i)), some (.int kk), some (.int b)]) (st' := [.int kk, .int kk]) (h' := h2) (P := True) 1 rfl rfl trivial ?_
    refine wp_br (P := True) (c := kk = kk) (t := 189) (st' := []) rfl rfl trivial (fun _ => ?_) (fun c => absurd rfl c)
    refine wp_steps (i' := 190) (ls' := [some (.ref 1), some (.ref 100), some (.ref 381), some (.ref 391), some (.int (nI i)), some (.int kk), some (.int b)]) (st' := [.int kk]) (h' := h2) (P := True) 1 rfl rfl trivial ?_
    refine wp_br (P := True) (c := ¬ kk = 0) (t := 200) (st' := []) rfl rfl trivial (fun _ => ?_) (fun c => ?_)
    · refine wp_J (j := 1565) (st' := []) rfl rfl ?_
      exact K h2 _ _ g2 bd (sc1_tr s1 (sc1_tr ⟨by rw [hmd.2.2.2.1], by rw [hmd.2.2.2.2]⟩ s2))
    · have c0 := el (Decidable.of_not_not c)
      rw [← ql] at c0
      refine wp_steps (i' := 197) (ls' := [some (.ref 1), some (.ref 100), some (.ref 381), some (.ref 391), some (.int (nI i)), some (.int kk), some (.int b)]) (st' := [.int (lg_cmp (mx_l h2 391 0) b.toInt64)]) (h' := h2) (P := (((mxT 391).1 = 52 ∧ mxG h2) ∧ vp_in 0 (mxT 391).2) ∧ True) 6 rfl rfl ⟨cA sT_391 G2 (vpl rfl), trivial⟩ ?_
      refine wp_br (P := True) (c := lg_cmp (mx_l h2 391 0) b.toInt64 = 0) (t := 200) (st' := []) rfl rfl trivial (fun _ => ?_) (fun c => absurd c0 c)
      refine wp_J (j := 1565) (st' := []) rfl rfl ?_
      exact K h2 _ _ g2 bd (sc1_tr s1 (sc1_tr ⟨by rw [hmd.2.2.2.1], by rw [hmd.2.2.2.2]⟩ s2))
  refine wp_steps (i' := 168) (ls' := [some (.ref 1), some (.ref 100), some (.ref 381), some (.ref 391), some (.int (nI i)), w5, w6]) (st' := [.ref 391, .int (mx_i h 1 (nI i + 2).toNatClampNeg), .int (mx_i h 1 (nI i + 1).toNatClampNeg), .ref 100]) (h' := h) (P := (1 = 1 ∧ vp_in (nI i + 1) (mx_r h 1 0)) ∧ (1 = 1 ∧ vp_in (nI i + 2) (mx_r h 1 0)) ∧ True) 12 rfl rfl ⟨⟨rfl, vpi hL hi hL2 (j := 1) (by decide)⟩, ⟨rfl, vpi hL hi hL2 (j := 2) (by decide)⟩, trivial⟩ ?_
  refine wp_call (b := false) (y' := 316) (as := [.ref 100, .int (mx_i h 1 (nI i + 1).toNatClampNeg), .int (mx_i h 1 (nI i + 2).toNatClampNeg), .ref 391]) (rest := []) (P := True) rfl (by with_unfolding_all rfl) trivial (Nat.le_of_ble_eq_true rfl) (wr_316 G (mx_wp.mono (fun o h1 q => ?_) (wp_dm (by decide : 500 ≤ 998) (wp_S1 (wp_G (by decide +kernel) G (O (mx_i h 1 (nI i + 1).toNatClampNeg) (mx_i h 1 (nI i + 2).toNatClampNeg) h vn vd vr vq np ns nl I))))))
  obtain ⟨s1, G1, post⟩ := q
  obtain ⟨n0, o20, h20, e0, b0, eb0, an0, r0⟩ := post h1 mdl_rfl
  refine ⟨G1, ?_⟩
  rcases ans_cases an0 with ⟨v, rfl, -, -⟩ | ⟨kx, rfl, -, q⟩
  · show mx_wp 1000 346 169 [some (.ref 1), some (.ref 100), some (.ref 381), some (.ref 391), some (.int (nI i)), w5, w6] [.int 0] (mx_wl h1 391 0 v.toInt64) Qf
    refine step _ h1 _ 0 G1 s1 post mdl_wl (fun b t a => ⟨a.1, fun _ => ?_⟩)
    have hvb : v = b := a.2
    rw [wl_at, hvb]; exact lgc _
  · refine ⟨code kx, hcs kx q, ?_⟩
    show mx_wp 1000 346 169 [some (.ref 1), some (.ref 100), some (.ref 381), some (.ref 391), some (.int (nI i)), w5, w6] [.int (code kx)] h1 Qf
    exact step _ h1 _ _ G1 s1 post mdl_rfl (fun b t a => ⟨a.1, fun e => absurd e q⟩)
set_option maxRecDepth 8000 in
theorem cs_20 {LW : mxLW} {h : mxH} {i L : Nat} {w5 w6 : Option Value} {Qf : mxO → mxH → Prop} {code : Nat → Int32} (O : ∀ x0 : Int32, Op LW 155 265 [.int x0] code) (hcs : ∀ k, code k ≠ 0 → (k, code k) ∈ ([(2, 1)] : List (Nat × Int32))) (g : GS LW h) (hL : mx_r h 1 0 = L) (hi : i + 6 ≤ L) (hL2 : L ≤ 3072) (K : ∀ (h2 : mxH) (w5 w6 : Option Value), GS LW h2 → bud h h2 → sc1 h h2 → mx_wp 1000 346 1565 [some (.ref 1), some (.ref 100), some (.ref 381), some (.ref 391), some (.int (nI i)), w5, w6] [] h2 Qf) : mx_wp 1000 346 781 [some (.ref 1), some (.ref 100), some (.ref 381), some (.ref 391), some (.int (nI i)), w5, w6] [] h Qf := by
  have G := GS_G g
  obtain ⟨vn, vd, vr, vq, np, ns, nl, I⟩ := g
  have step : ∀ (o : mxO) (h1 hm : mxH) (kk : Int32), mxG h1 → sc1 h h1 → (∀ hm, mdl h1 hm → mx_wp 500 265 0 (mx_fr 265 [.ref 381, .int (mx_i h 1 (nI i + 1).toNatClampNeg)]) [] hm (fun o2 h2 => ∃ b, o2 = .inl (some (.int b)) ∧ ansOk code o b (mx_i h2 381 0) ∧ bud h h2 ∧ GS LW h2)) → mdl h1 hm → (∀ b t, ansOk code o b t → t = kk ∧ (kk = 0 → lg_cmp (mx_l hm 391 0) (if b = 0 then Int64.ofNat 0 else Int64.ofNat 1) = 0)) → mx_wp 1000 346 789 [some (.ref 1), some (.ref 100), some (.ref 381), some (.ref 391), some (.int (nI i)), w5, w6] [.int kk] hm Qf := by
    intro o h1 hm kk G1 s1 post hmd hk
    have sch : mx_i hm 1 = mx_i h 1 := by rw [hmd.2.2.2.1]; exact s1.1
    have hLm : mx_r hm 1 0 = L := by rw [hmd.2.2.2.2, s1.2]; exact hL
    have Gm : mxG hm := agr_G (P := fun _ => False) (agr_mdl hmd) G1
    refine wp_steps (i' := 790) (ls' := [some (.ref 1), some (.ref 100), some (.ref 381), some (.ref 391), some (.int (nI i)), some (.int kk), w6]) (st' := []) (h' := hm) (P := True) 1 rfl rfl trivial ?_
    refine wp_steps (i' := 796) (ls' := [some (.ref 1), some (.ref 100), some (.ref 381), some (.ref 391), some (.int (nI i)), some (.int kk), w6]) (st' := [.int (mx_i hm 1 (nI i + 1).toNatClampNeg), .ref 381]) (h' := hm) (P := (1 = 1 ∧ vp_in (nI i + 1) (mx_r hm 1 0)) ∧ True) 6 rfl rfl ⟨⟨rfl, vpi hLm hi hL2 (j := 1) (by decide)⟩, trivial⟩ ?_
    rw [sch]
    refine wp_call (b := false) (y' := 265) (as := [.ref 381, .int (mx_i h 1 (nI i + 1).toNatClampNeg)]) (rest := []) (P := ((mxT 381).1 = mxRc 265 ∧ mxG hm)) rfl (by with_unfolding_all rfl) ⟨congrArg Prod.fst sT_381, Gm⟩ (Nat.le_of_ble_eq_true rfl) (mx_wp.mono (fun o2 h2 q => ?_) (wp_dm (by decide : 500 ≤ 999) (wp_L (by decide +kernel) Gm (wp_S1 (post hm hmd)))))
    obtain ⟨ql, s2, b, rfl, an, bd, g2⟩ := q
    obtain ⟨et, el⟩ := hk b _ an
    have G2 := GS_G g2
    show mx_wp 1000 346 797 [some (.ref 1), some (.ref 100), some (.ref 381), some (.ref 391), some (.int (nI i)), some (.int kk), w6] [.int b] h2 Qf
    refine wp_steps (i' := 799) (ls' := [some (.ref 1), some (.ref 100), some (.ref 381), some (.ref 391), some (.int (nI i)), some (.int kk), some (.int b)]) (st' := [.ref 381]) (h' := h2) (P := True) 2 rfl rfl trivial ?_
    refine wp_call (b := false) (y' := 190) (as := [.ref 381]) (rest := []) (P := ((mxT 381).1 = mxRc 190 ∧ mxG h2)) rfl (by with_unfolding_all rfl) ⟨congrArg Prod.fst sT_381, G2⟩ (Nat.le_of_ble_eq_true rfl) (tr_190_0 G2 ?_)
    show mx_wp 1000 346 800 [some (.ref 1), some (.ref 100), some (.ref 381), some (.ref 391), some (.int (nI i)), some (.int kk), some (.int b)] [.int (mx_i h2 381 0)] h2 Qf
    rw [et]
    refine wp_steps (i' := 801) (ls' := [some (.ref 1), some (.ref 100), some (.ref 381), some (.ref 391), some (.int (nI i)), some (.int kk), some (.int b)]) (st' := [.int kk, .int kk]) (h' := h2) (P := True) 1 rfl rfl trivial ?_
    refine wp_br (P := True) (c := kk = kk) (t := 804) (st' := []) rfl rfl trivial (fun _ => ?_) (fun c => absurd rfl c)
    refine wp_steps (i' := 805) (ls' := [some (.ref 1), some (.ref 100), some (.ref 381), some (.ref 391), some (.int (nI i)), some (.int kk), some (.int b)]) (st' := [.int kk]) (h' := h2) (P := True) 1 rfl rfl trivial ?_
    refine wp_br (P := True) (c := ¬ kk = 0) (t := 818) (st' := []) rfl rfl trivial (fun _ => ?_) (fun c => ?_)
    · refine wp_J (j := 1565) (st' := []) rfl rfl ?_
      exact K h2 _ _ g2 bd (sc1_tr s1 (sc1_tr ⟨by rw [hmd.2.2.2.1], by rw [hmd.2.2.2.2]⟩ s2))
    · have c0 := el (Decidable.of_not_not c)
      rw [← ql] at c0
      refine wp_steps (i' := 810) (ls' := [some (.ref 1), some (.ref 100), some (.ref 381), some (.ref 391), some (.int (nI i)), some (.int kk), some (.int b)]) (st' := [.int b, .long (mx_l h2 391 0)]) (h' := h2) (P := (((mxT 391).1 = 52 ∧ mxG h2) ∧ vp_in 0 (mxT 391).2) ∧ True) 4 rfl rfl ⟨cA sT_391 G2 (vpl rfl), trivial⟩ ?_
      refine wp_br (P := True) (c := b = 0) (t := 813) (st' := [.long (mx_l h2 391 0)]) rfl rfl trivial (fun cq => ?_) (fun cq => ?_)
      · simp only [if_pos cq] at c0
        refine wp_steps (i' := 815) (ls' := [some (.ref 1), some (.ref 100), some (.ref 381), some (.ref 391), some (.int (nI i)), some (.int kk), some (.int b)]) (st' := [.int (lg_cmp (mx_l h2 391 0) (Int64.ofNat 0))]) (h' := h2) (P := True) 2 rfl rfl trivial ?_
        refine wp_br (P := True) (c := lg_cmp (mx_l h2 391 0) (Int64.ofNat 0) = 0) (t := 818) (st' := []) rfl rfl trivial (fun _ => ?_) (fun c => absurd c0 c)
        refine wp_J (j := 1565) (st' := []) rfl rfl ?_
        exact K h2 _ _ g2 bd (sc1_tr s1 (sc1_tr ⟨by rw [hmd.2.2.2.1], by rw [hmd.2.2.2.2]⟩ s2))
      · simp only [if_neg cq] at c0
        refine wp_steps (i' := 812) (ls' := [some (.ref 1), some (.ref 100), some (.ref 381), some (.ref 391), some (.int (nI i)), some (.int kk), some (.int b)]) (st' := [.long (Int64.ofNat 1), .long (mx_l h2 391 0)]) (h' := h2) (P := True) 1 rfl rfl trivial ?_
        refine wp_J (j := 814) (st' := [.long (Int64.ofNat 1), .long (mx_l h2 391 0)]) rfl rfl ?_
        refine wp_steps (i' := 815) (ls' := [some (.ref 1), some (.ref 100), some (.ref 381), some (.ref 391), some (.int (nI i)), some (.int kk), some (.int b)]) (st' := [.int (lg_cmp (mx_l h2 391 0) (Int64.ofNat 1))]) (h' := h2) (P := True) 1 rfl rfl trivial ?_
        refine wp_br (P := True) (c := lg_cmp (mx_l h2 391 0) (Int64.ofNat 1) = 0) (t := 818) (st' := []) rfl rfl trivial (fun _ => ?_) (fun c => absurd c0 c)
        refine wp_J (j := 1565) (st' := []) rfl rfl ?_
        exact K h2 _ _ g2 bd (sc1_tr s1 (sc1_tr ⟨by rw [hmd.2.2.2.1], by rw [hmd.2.2.2.2]⟩ s2))
  refine wp_steps (i' := 788) (ls' := [some (.ref 1), some (.ref 100), some (.ref 381), some (.ref 391), some (.int (nI i)), w5, w6]) (st' := [.ref 391, .int (mx_i h 1 (nI i + 1).toNatClampNeg), .ref 100]) (h' := h) (P := (1 = 1 ∧ vp_in (nI i + 1) (mx_r h 1 0)) ∧ True) 7 rfl rfl ⟨⟨rfl, vpi hL hi hL2 (j := 1) (by decide)⟩, trivial⟩ ?_
  refine wp_call (b := false) (y' := 331) (as := [.ref 100, .int (mx_i h 1 (nI i + 1).toNatClampNeg), .ref 391]) (rest := []) (P := True) rfl (by with_unfolding_all rfl) trivial (Nat.le_of_ble_eq_true rfl) (wr_331 G (mx_wp.mono (fun o h1 q => ?_) (wp_dm (by decide : 500 ≤ 998) (wp_S1 (wp_G (by decide +kernel) G (O (mx_i h 1 (nI i + 1).toNatClampNeg) h vn vd vr vq np ns nl I))))))
  obtain ⟨s1, G1, post⟩ := q
  obtain ⟨n0, o20, h20, e0, b0, eb0, an0, r0⟩ := post h1 mdl_rfl
  refine ⟨G1, ?_⟩
  rcases ans_cases an0 with ⟨v, rfl, -, -⟩ | ⟨kx, rfl, -, q⟩
  · show mx_wp 1000 346 789 [some (.ref 1), some (.ref 100), some (.ref 381), some (.ref 391), some (.int (nI i)), w5, w6] [.int 0] (mx_wl h1 391 0 (if v = 0 then Int64.ofNat 0 else Int64.ofNat 1)) Qf
    refine step _ h1 _ 0 G1 s1 post mdl_wl (fun b t a => ⟨a.1, fun _ => ?_⟩)
    have hvb : v = b := a.2
    rw [wl_at, hvb]; exact lgc _
  · refine ⟨code kx, hcs kx q, ?_⟩
    show mx_wp 1000 346 789 [some (.ref 1), some (.ref 100), some (.ref 381), some (.ref 391), some (.int (nI i)), w5, w6] [.int (code kx)] h1 Qf
    exact step _ h1 _ _ G1 s1 post mdl_rfl (fun b t a => ⟨a.1, fun e => absurd e q⟩)
set_option maxRecDepth 8000 in
theorem cs_31 {LW : mxLW} {h : mxH} {i L : Nat} {w5 w6 : Option Value} {Qf : mxO → mxH → Prop} {code : Nat → Int32} (O : ∀ x0 : Int32, Op LW 170 285 [.int x0] code) (hcode : ∀ k, code k = 0) (g : GS LW h) (hL : mx_r h 1 0 = L) (hi : i + 6 ≤ L) (hL2 : L ≤ 3072) (K : ∀ (h2 : mxH) (w5 w6 : Option Value), GS LW h2 → bud h h2 → sc1 h h2 → mx_wp 1000 346 1565 [some (.ref 1), some (.ref 100), some (.ref 381), some (.ref 391), some (.int (nI i)), w5, w6] [] h2 Qf) : mx_wp 1000 346 1172 [some (.ref 1), some (.ref 100), some (.ref 381), some (.ref 391), some (.int (nI i)), w5, w6] [] h Qf := by
  have G := GS_G g
  obtain ⟨vn, vd, vr, vq, np, ns, nl, I⟩ := g
  by_cases cb : (mx_i h 1 (nI i + 1).toNatClampNeg) = 0
  · skip
    refine wp_steps (i' := 1178) (ls' := [some (.ref 1), some (.ref 100), some (.ref 381), some (.ref 391), some (.int (nI i)), w5, w6]) (st' := [.int (mx_i h 1 (nI i + 1).toNatClampNeg), .ref 100]) (h' := h) (P := (1 = 1 ∧ vp_in (nI i + 1) (mx_r h 1 0)) ∧ True) 6 rfl rfl ⟨⟨rfl, vpi hL hi hL2 (j := 1) (by decide)⟩, trivial⟩ ?_
    refine wp_br (P := True) (c := (mx_i h 1 (nI i + 1).toNatClampNeg) = 0) (t := 1181) (st' := [.ref 100]) rfl rfl trivial (fun c => ?_) (fun c => ?_)
    rotate_left
    · exact absurd cb c
    refine wp_steps (i' := 1182) (ls' := [some (.ref 1), some (.ref 100), some (.ref 381), some (.ref 391), some (.int (nI i)), w5, w6]) (st' := [.int 0, .ref 100]) (h' := h) (P := True) 1 rfl rfl trivial ?_
    refine wp_call (b := false) (y' := 170) (as := [.ref 100, .int 0]) (rest := []) (P := ((mxT 100).1 = mxRc 170 ∧ mxG h)) rfl (by with_unfolding_all rfl) ⟨congrArg Prod.fst sT_100, G⟩ (Nat.le_of_ble_eq_true rfl) (mx_wp.mono (fun o h1 q => ?_) (wp_dm (by decide : 500 ≤ 999) (wp_S1 (wp_G (by decide +kernel) G (O 0 h vn vd vr vq np ns nl I)))))
    obtain ⟨s1, G1, post⟩ := q
    obtain ⟨n0, o20, h20, e0, b0, eb0, an0, r0⟩ := post h1 mdl_rfl
    rcases ans_cases an0 with ⟨v, rfl, -, -⟩ | ⟨kx, -, -, q⟩
    rotate_left
    · exact absurd (hcode kx) q
    show mx_wp 1000 346 1183 [some (.ref 1), some (.ref 100), some (.ref 381), some (.ref 391), some (.int (nI i)), w5, w6] [.int v] h1 Qf
    have hL1 : mx_r h1 1 0 = L := by rw [s1.2]; exact hL
    have sch : mx_i h1 1 = mx_i h 1 := s1.1
    refine wp_steps (i' := 1189) (ls' := [some (.ref 1), some (.ref 100), some (.ref 381), some (.ref 391), some (.int (nI i)), w5, w6]) (st' := [.int (mx_i h1 1 (nI i + 1).toNatClampNeg), .ref 381, .int v]) (h' := h1) (P := (1 = 1 ∧ vp_in (nI i + 1) (mx_r h1 1 0)) ∧ True) 6 rfl rfl ⟨⟨rfl, vpi hL1 hi hL2 (j := 1) (by decide)⟩, trivial⟩ ?_
    refine wp_br (P := True) (c := (mx_i h1 1 (nI i + 1).toNatClampNeg) = 0) (t := 1192) (st' := [.ref 381, .int v]) rfl rfl trivial (fun c => ?_) (fun c => ?_)
    rotate_left
    · exact absurd (by rw [sch]; exact cb) c
    refine wp_steps (i' := 1193) (ls' := [some (.ref 1), some (.ref 100), some (.ref 381), some (.ref 391), some (.int (nI i)), w5, w6]) (st' := [.int 0, .ref 381, .int v]) (h' := h1) (P := True) 1 rfl rfl trivial ?_
    skip
    refine wp_call (b := false) (y' := 285) (as := [.ref 381, .int 0]) (rest := [.int v]) (P := ((mxT 381).1 = mxRc 285 ∧ mxG h1)) rfl (by with_unfolding_all rfl) ⟨congrArg Prod.fst sT_381, G1⟩ (Nat.le_of_ble_eq_true rfl) (mx_wp.mono (fun o h2 q => ?_) (wp_dm (by decide : 500 ≤ 999) (wp_S1 (post h1 mdl_rfl))))
    obtain ⟨s2, b, rfl, an, bd, g2⟩ := q
    have evb : v = b := an.2
    show mx_wp 1000 346 1194 [some (.ref 1), some (.ref 100), some (.ref 381), some (.ref 391), some (.int (nI i)), w5, w6] [.int b, .int v] h2 Qf
    refine wp_br (P := True) (c := v = b) (t := 1565) (st' := []) rfl rfl trivial (fun _ => ?_) (fun c => absurd evb c)
    exact K h2 _ _ g2 bd (sc1_tr s1 s2)
  · skip
    refine wp_steps (i' := 1178) (ls' := [some (.ref 1), some (.ref 100), some (.ref 381), some (.ref 391), some (.int (nI i)), w5, w6]) (st' := [.int (mx_i h 1 (nI i + 1).toNatClampNeg), .ref 100]) (h' := h) (P := (1 = 1 ∧ vp_in (nI i + 1) (mx_r h 1 0)) ∧ True) 6 rfl rfl ⟨⟨rfl, vpi hL hi hL2 (j := 1) (by decide)⟩, trivial⟩ ?_
    refine wp_br (P := True) (c := (mx_i h 1 (nI i + 1).toNatClampNeg) = 0) (t := 1181) (st' := [.ref 100]) rfl rfl trivial (fun c => ?_) (fun c => ?_)
    · exact absurd c cb
    refine wp_steps (i' := 1180) (ls' := [some (.ref 1), some (.ref 100), some (.ref 381), some (.ref 391), some (.int (nI i)), w5, w6]) (st' := [.int 1, .ref 100]) (h' := h) (P := True) 1 rfl rfl trivial ?_
    refine wp_J (j := 1182) (st' := [.int 1, .ref 100]) rfl rfl ?_
    refine wp_call (b := false) (y' := 170) (as := [.ref 100, .int 1]) (rest := []) (P := ((mxT 100).1 = mxRc 170 ∧ mxG h)) rfl (by with_unfolding_all rfl) ⟨congrArg Prod.fst sT_100, G⟩ (Nat.le_of_ble_eq_true rfl) (mx_wp.mono (fun o h1 q => ?_) (wp_dm (by decide : 500 ≤ 999) (wp_S1 (wp_G (by decide +kernel) G (O 1 h vn vd vr vq np ns nl I)))))
    obtain ⟨s1, G1, post⟩ := q
    obtain ⟨n0, o20, h20, e0, b0, eb0, an0, r0⟩ := post h1 mdl_rfl
    rcases ans_cases an0 with ⟨v, rfl, -, -⟩ | ⟨kx, -, -, q⟩
    rotate_left
    · exact absurd (hcode kx) q
    show mx_wp 1000 346 1183 [some (.ref 1), some (.ref 100), some (.ref 381), some (.ref 391), some (.int (nI i)), w5, w6] [.int v] h1 Qf
    have hL1 : mx_r h1 1 0 = L := by rw [s1.2]; exact hL
    have sch : mx_i h1 1 = mx_i h 1 := s1.1
    refine wp_steps (i' := 1189) (ls' := [some (.ref 1), some (.ref 100), some (.ref 381), some (.ref 391), some (.int (nI i)), w5, w6]) (st' := [.int (mx_i h1 1 (nI i + 1).toNatClampNeg), .ref 381, .int v]) (h' := h1) (P := (1 = 1 ∧ vp_in (nI i + 1) (mx_r h1 1 0)) ∧ True) 6 rfl rfl ⟨⟨rfl, vpi hL1 hi hL2 (j := 1) (by decide)⟩, trivial⟩ ?_
    refine wp_br (P := True) (c := (mx_i h1 1 (nI i + 1).toNatClampNeg) = 0) (t := 1192) (st' := [.ref 381, .int v]) rfl rfl trivial (fun c => ?_) (fun c => ?_)
    · exact absurd c (by rw [sch]; exact cb)
    refine wp_steps (i' := 1191) (ls' := [some (.ref 1), some (.ref 100), some (.ref 381), some (.ref 391), some (.int (nI i)), w5, w6]) (st' := [.int 1, .ref 381, .int v]) (h' := h1) (P := True) 1 rfl rfl trivial ?_
    refine wp_J (j := 1193) (st' := [.int 1, .ref 381, .int v]) rfl rfl ?_
    skip
    refine wp_call (b := false) (y' := 285) (as := [.ref 381, .int 1]) (rest := [.int v]) (P := ((mxT 381).1 = mxRc 285 ∧ mxG h1)) rfl (by with_unfolding_all rfl) ⟨congrArg Prod.fst sT_381, G1⟩ (Nat.le_of_ble_eq_true rfl) (mx_wp.mono (fun o h2 q => ?_) (wp_dm (by decide : 500 ≤ 999) (wp_S1 (post h1 mdl_rfl))))
    obtain ⟨s2, b, rfl, an, bd, g2⟩ := q
    have evb : v = b := an.2
    show mx_wp 1000 346 1194 [some (.ref 1), some (.ref 100), some (.ref 381), some (.ref 391), some (.int (nI i)), w5, w6] [.int b, .int v] h2 Qf
    refine wp_br (P := True) (c := v = b) (t := 1565) (st' := []) rfl rfl trivial (fun _ => ?_) (fun c => absurd evb c)
    exact K h2 _ _ g2 bd (sc1_tr s1 s2)
set_option maxRecDepth 8000 in
theorem cs_24 {LW : mxLW} {h : mxH} {i L : Nat} {w5 w6 : Option Value} {Qf : mxO → mxH → Prop} {code : Nat → Int32} (O : ∀ x0 x1 : Int32, Op LW 163 273 [.int x0, .int x1] code) (hcs : ∀ k, code k ≠ 0 → (k, code k) ∈ ([(2, 1)] : List (Nat × Int32))) (g : GS LW h) (hL : mx_r h 1 0 = L) (hi : i + 6 ≤ L) (hL2 : L ≤ 3072) (K : ∀ (h2 : mxH) (w5 w6 : Option Value), GS LW h2 → bud h h2 → sc1 h h2 → mx_wp 1000 346 1565 [some (.ref 1), some (.ref 100), some (.ref 381), some (.ref 391), some (.int (nI i)), w5, w6] [] h2 Qf) : mx_wp 1000 346 906 [some (.ref 1), some (.ref 100), some (.ref 381), some (.ref 391), some (.int (nI i)), w5, w6] [] h Qf := by
  have G := GS_G g
  obtain ⟨vn, vd, vr, vq, np, ns, nl, I⟩ := g
  by_cases cb : (mx_i h 1 (nI i + 2).toNatClampNeg) = 0
  · skip
    have step : ∀ (o : mxO) (h1 hm : mxH) (kk : Int32), mxG h1 → sc1 h h1 → (∀ hm, mdl h1 hm → mx_wp 500 273 0 (mx_fr 273 [.ref 381, .int (mx_i h 1 (nI i + 1).toNatClampNeg), .int 0]) [] hm (fun o2 h2 => ∃ b, o2 = .inl (some (.int b)) ∧ ansOk code o b (mx_i h2 381 0) ∧ bud h h2 ∧ GS LW h2)) → mdl h1 hm → (∀ b t, ansOk code o b t → t = kk ∧ (kk = 0 → lg_cmp (mx_l hm 391 0) b.toInt64 = 0)) → mx_wp 1000 346 923 [some (.ref 1), some (.ref 100), some (.ref 381), some (.ref 391), some (.int (nI i)), w5, w6] [.int kk] hm Qf := by
      intro o h1 hm kk G1 s1 post hmd hk
      have sch : mx_i hm 1 = mx_i h 1 := by rw [hmd.2.2.2.1]; exact s1.1
      have hLm : mx_r hm 1 0 = L := by rw [hmd.2.2.2.2, s1.2]; exact hL
      have Gm : mxG hm := agr_G (P := fun _ => False) (agr_mdl hmd) G1
      refine wp_steps (i' := 924) (ls' := [some (.ref 1), some (.ref 100), some (.ref 381), some (.ref 391), some (.int (nI i)), some (.int kk), w6]) (st' := []) (h' := hm) (P := True) 1 rfl rfl trivial ?_
      refine wp_steps (i' := 935) (ls' := [some (.ref 1), some (.ref 100), some (.ref 381), some (.ref 391), some (.int (nI i)), some (.int kk), w6]) (st' := [.int (mx_i hm 1 (nI i + 2).toNatClampNeg), .int (mx_i hm 1 (nI i + 1).toNatClampNeg), .ref 381]) (h' := hm) (P := (1 = 1 ∧ vp_in (nI i + 1) (mx_r hm 1 0)) ∧ (1 = 1 ∧ vp_in (nI i + 2) (mx_r hm 1 0)) ∧ True) 11 rfl rfl ⟨⟨rfl, vpi hLm hi hL2 (j := 1) (by decide)⟩, ⟨rfl, vpi hLm hi hL2 (j := 2) (by decide)⟩, trivial⟩ ?_
      refine wp_br (P := True) (c := (mx_i hm 1 (nI i + 2).toNatClampNeg) = 0) (t := 938) (st' := [.int (mx_i hm 1 (nI i + 1).toNatClampNeg), .ref 381]) rfl rfl trivial (fun c => ?_) (fun c => ?_)
      rotate_left
      · exact absurd (by rw [sch]; exact cb) c
      refine wp_steps (i' := 939) (ls' := [some (.ref 1), some (.ref 100), some (.ref 381), some (.ref 391), some (.int (nI i)), some (.int kk), w6]) (st' := [.int 0, .int (mx_i hm 1 (nI i + 1).toNatClampNeg), .ref 381]) (h' := hm) (P := True) 1 rfl rfl trivial ?_
      rw [sch]
      refine wp_call (b := false) (y' := 273) (as := [.ref 381, .int (mx_i h 1 (nI i + 1).toNatClampNeg), .int 0]) (rest := []) (P := ((mxT 381).1 = mxRc 273 ∧ mxG hm)) rfl (by with_unfolding_all rfl) ⟨congrArg Prod.fst sT_381, Gm⟩ (Nat.le_of_ble_eq_true rfl) (mx_wp.mono (fun o2 h2 q => ?_) (wp_dm (by decide : 500 ≤ 999) (wp_L (by decide +kernel) Gm (wp_S1 (post hm hmd)))))
      obtain ⟨ql, s2, b, rfl, an, bd, g2⟩ := q
      obtain ⟨et, el⟩ := hk b _ an
      have G2 := GS_G g2
      show mx_wp 1000 346 940 [some (.ref 1), some (.ref 100), some (.ref 381), some (.ref 391), some (.int (nI i)), some (.int kk), w6] [.int b] h2 Qf
      refine wp_steps (i' := 942) (ls' := [some (.ref 1), some (.ref 100), some (.ref 381), some (.ref 391), some (.int (nI i)), some (.int kk), some (.int b)]) (st' := [.ref 381]) (h' := h2) (P := True) 2 rfl rfl trivial ?_
      refine wp_call (b := false) (y' := 190) (as := [.ref 381]) (rest := []) (P := ((mxT 381).1 = mxRc 190 ∧ mxG h2)) rfl (by with_unfolding_all rfl) ⟨congrArg Prod.fst sT_381, G2⟩ (Nat.le_of_ble_eq_true rfl) (tr_190_0 G2 ?_)
      show mx_wp 1000 346 943 [some (.ref 1), some (.ref 100), some (.ref 381), some (.ref 391), some (.int (nI i)), some (.int kk), some (.int b)] [.int (mx_i h2 381 0)] h2 Qf
      rw [et]
      refine wp_steps (i' := 944) (ls' := [some (.ref 1), some (.ref 100), some (.ref 381), some (.ref 391), some (.int (nI i)), some (.int kk), some (.int b)]) (st' := [.int kk, .int kk]) (h' := h2) (P := True) 1 rfl rfl trivial ?_
      refine wp_br (P := True) (c := kk = kk) (t := 947) (st' := []) rfl rfl trivial (fun _ => ?_) (fun c => absurd rfl c)
      refine wp_steps (i' := 948) (ls' := [some (.ref 1), some (.ref 100), some (.ref 381), some (.ref 391), some (.int (nI i)), some (.int kk), some (.int b)]) (st' := [.int kk]) (h' := h2) (P := True) 1 rfl rfl trivial ?_
      refine wp_br (P := True) (c := ¬ kk = 0) (t := 958) (st' := []) rfl rfl trivial (fun _ => ?_) (fun c => ?_)
      · refine wp_J (j := 1565) (st' := []) rfl rfl ?_
        exact K h2 _ _ g2 bd (sc1_tr s1 (sc1_tr ⟨by rw [hmd.2.2.2.1], by rw [hmd.2.2.2.2]⟩ s2))
      · have c0 := el (Decidable.of_not_not c)
        rw [← ql] at c0
        refine wp_steps (i' := 955) (ls' := [some (.ref 1), some (.ref 100), some (.ref 381), some (.ref 391), some (.int (nI i)), some (.int kk), some (.int b)]) (st' := [.int (lg_cmp (mx_l h2 391 0) b.toInt64)]) (h' := h2) (P := (((mxT 391).1 = 52 ∧ mxG h2) ∧ vp_in 0 (mxT 391).2) ∧ True) 6 rfl rfl ⟨cA sT_391 G2 (vpl rfl), trivial⟩ ?_
        refine wp_br (P := True) (c := lg_cmp (mx_l h2 391 0) b.toInt64 = 0) (t := 958) (st' := []) rfl rfl trivial (fun _ => ?_) (fun c => absurd c0 c)
        refine wp_J (j := 1565) (st' := []) rfl rfl ?_
        exact K h2 _ _ g2 bd (sc1_tr s1 (sc1_tr ⟨by rw [hmd.2.2.2.1], by rw [hmd.2.2.2.2]⟩ s2))
    refine wp_steps (i' := 917) (ls' := [some (.ref 1), some (.ref 100), some (.ref 381), some (.ref 391), some (.int (nI i)), w5, w6]) (st' := [.int (mx_i h 1 (nI i + 2).toNatClampNeg), .int (mx_i h 1 (nI i + 1).toNatClampNeg), .ref 100]) (h' := h) (P := (1 = 1 ∧ vp_in (nI i + 1) (mx_r h 1 0)) ∧ (1 = 1 ∧ vp_in (nI i + 2) (mx_r h 1 0)) ∧ True) 11 rfl rfl ⟨⟨rfl, vpi hL hi hL2 (j := 1) (by decide)⟩, ⟨rfl, vpi hL hi hL2 (j := 2) (by decide)⟩, trivial⟩ ?_
    refine wp_br (P := True) (c := (mx_i h 1 (nI i + 2).toNatClampNeg) = 0) (t := 920) (st' := [.int (mx_i h 1 (nI i + 1).toNatClampNeg), .ref 100]) rfl rfl trivial (fun c => ?_) (fun c => ?_)
    rotate_left
    · exact absurd cb c
    refine wp_steps (i' := 921) (ls' := [some (.ref 1), some (.ref 100), some (.ref 381), some (.ref 391), some (.int (nI i)), w5, w6]) (st' := [.int 0, .int (mx_i h 1 (nI i + 1).toNatClampNeg), .ref 100]) (h' := h) (P := True) 1 rfl rfl trivial ?_
    refine wp_steps (i' := 922) (ls' := [some (.ref 1), some (.ref 100), some (.ref 381), some (.ref 391), some (.int (nI i)), w5, w6]) (st' := [.ref 391, .int 0, .int (mx_i h 1 (nI i + 1).toNatClampNeg), .ref 100]) (h' := h) (P := True) 1 rfl rfl trivial ?_
    refine wp_call (b := false) (y' := 334) (as := [.ref 100, .int (mx_i h 1 (nI i + 1).toNatClampNeg), .int 0, .ref 391]) (rest := []) (P := True) rfl (by with_unfolding_all rfl) trivial (Nat.le_of_ble_eq_true rfl) (wr_334 G (mx_wp.mono (fun o h1 q => ?_) (wp_dm (by decide : 500 ≤ 998) (wp_S1 (wp_G (by decide +kernel) G (O (mx_i h 1 (nI i + 1).toNatClampNeg) 0 h vn vd vr vq np ns nl I))))))
    obtain ⟨s1, G1, post⟩ := q
    obtain ⟨n0, o20, h20, e0, b0, eb0, an0, r0⟩ := post h1 mdl_rfl
    refine ⟨G1, ?_⟩
    rcases ans_cases an0 with ⟨v, rfl, -, -⟩ | ⟨kx, rfl, -, q⟩
    · show mx_wp 1000 346 923 [some (.ref 1), some (.ref 100), some (.ref 381), some (.ref 391), some (.int (nI i)), w5, w6] [.int 0] (mx_wl h1 391 0 v.toInt64) Qf
      refine step _ h1 _ 0 G1 s1 post mdl_wl (fun b t a => ⟨a.1, fun _ => ?_⟩)
      have hvb : v = b := a.2
      rw [wl_at, hvb]; exact lgc _
    · refine ⟨code kx, hcs kx q, ?_⟩
      show mx_wp 1000 346 923 [some (.ref 1), some (.ref 100), some (.ref 381), some (.ref 391), some (.int (nI i)), w5, w6] [.int (code kx)] h1 Qf
      exact step _ h1 _ _ G1 s1 post mdl_rfl (fun b t a => ⟨a.1, fun e => absurd e q⟩)
  · skip
    have step : ∀ (o : mxO) (h1 hm : mxH) (kk : Int32), mxG h1 → sc1 h h1 → (∀ hm, mdl h1 hm → mx_wp 500 273 0 (mx_fr 273 [.ref 381, .int (mx_i h 1 (nI i + 1).toNatClampNeg), .int 1]) [] hm (fun o2 h2 => ∃ b, o2 = .inl (some (.int b)) ∧ ansOk code o b (mx_i h2 381 0) ∧ bud h h2 ∧ GS LW h2)) → mdl h1 hm → (∀ b t, ansOk code o b t → t = kk ∧ (kk = 0 → lg_cmp (mx_l hm 391 0) b.toInt64 = 0)) → mx_wp 1000 346 923 [some (.ref 1), some (.ref 100), some (.ref 381), some (.ref 391), some (.int (nI i)), w5, w6] [.int kk] hm Qf := by
      intro o h1 hm kk G1 s1 post hmd hk
      have sch : mx_i hm 1 = mx_i h 1 := by rw [hmd.2.2.2.1]; exact s1.1
      have hLm : mx_r hm 1 0 = L := by rw [hmd.2.2.2.2, s1.2]; exact hL
      have Gm : mxG hm := agr_G (P := fun _ => False) (agr_mdl hmd) G1
      refine wp_steps (i' := 924) (ls' := [some (.ref 1), some (.ref 100), some (.ref 381), some (.ref 391), some (.int (nI i)), some (.int kk), w6]) (st' := []) (h' := hm) (P := True) 1 rfl rfl trivial ?_
      refine wp_steps (i' := 935) (ls' := [some (.ref 1), some (.ref 100), some (.ref 381), some (.ref 391), some (.int (nI i)), some (.int kk), w6]) (st' := [.int (mx_i hm 1 (nI i + 2).toNatClampNeg), .int (mx_i hm 1 (nI i + 1).toNatClampNeg), .ref 381]) (h' := hm) (P := (1 = 1 ∧ vp_in (nI i + 1) (mx_r hm 1 0)) ∧ (1 = 1 ∧ vp_in (nI i + 2) (mx_r hm 1 0)) ∧ True) 11 rfl rfl ⟨⟨rfl, vpi hLm hi hL2 (j := 1) (by decide)⟩, ⟨rfl, vpi hLm hi hL2 (j := 2) (by decide)⟩, trivial⟩ ?_
      refine wp_br (P := True) (c := (mx_i hm 1 (nI i + 2).toNatClampNeg) = 0) (t := 938) (st' := [.int (mx_i hm 1 (nI i + 1).toNatClampNeg), .ref 381]) rfl rfl trivial (fun c => ?_) (fun c => ?_)
      · exact absurd c (by rw [sch]; exact cb)
      refine wp_steps (i' := 937) (ls' := [some (.ref 1), some (.ref 100), some (.ref 381), some (.ref 391), some (.int (nI i)), some (.int kk), w6]) (st' := [.int 1, .int (mx_i hm 1 (nI i + 1).toNatClampNeg), .ref 381]) (h' := hm) (P := True) 1 rfl rfl trivial ?_
      refine wp_J (j := 939) (st' := [.int 1, .int (mx_i hm 1 (nI i + 1).toNatClampNeg), .ref 381]) rfl rfl ?_
      rw [sch]
      refine wp_call (b := false) (y' := 273) (as := [.ref 381, .int (mx_i h 1 (nI i + 1).toNatClampNeg), .int 1]) (rest := []) (P := ((mxT 381).1 = mxRc 273 ∧ mxG hm)) rfl (by with_unfolding_all rfl) ⟨congrArg Prod.fst sT_381, Gm⟩ (Nat.le_of_ble_eq_true rfl) (mx_wp.mono (fun o2 h2 q => ?_) (wp_dm (by decide : 500 ≤ 999) (wp_L (by decide +kernel) Gm (wp_S1 (post hm hmd)))))
      obtain ⟨ql, s2, b, rfl, an, bd, g2⟩ := q
      obtain ⟨et, el⟩ := hk b _ an
      have G2 := GS_G g2
      show mx_wp 1000 346 940 [some (.ref 1), some (.ref 100), some (.ref 381), some (.ref 391), some (.int (nI i)), some (.int kk), w6] [.int b] h2 Qf
      refine wp_steps (i' := 942) (ls' := [some (.ref 1), some (.ref 100), some (.ref 381), some (.ref 391), some (.int (nI i)), some (.int kk), some (.int b)]) (st' := [.ref 381]) (h' := h2) (P := True) 2 rfl rfl trivial ?_
      refine wp_call (b := false) (y' := 190) (as := [.ref 381]) (rest := []) (P := ((mxT 381).1 = mxRc 190 ∧ mxG h2)) rfl (by with_unfolding_all rfl) ⟨congrArg Prod.fst sT_381, G2⟩ (Nat.le_of_ble_eq_true rfl) (tr_190_0 G2 ?_)
      show mx_wp 1000 346 943 [some (.ref 1), some (.ref 100), some (.ref 381), some (.ref 391), some (.int (nI i)), some (.int kk), some (.int b)] [.int (mx_i h2 381 0)] h2 Qf
      rw [et]
      refine wp_steps (i' := 944) (ls' := [some (.ref 1), some (.ref 100), some (.ref 381), some (.ref 391), some (.int (nI i)), some (.int kk), some (.int b)]) (st' := [.int kk, .int kk]) (h' := h2) (P := True) 1 rfl rfl trivial ?_
      refine wp_br (P := True) (c := kk = kk) (t := 947) (st' := []) rfl rfl trivial (fun _ => ?_) (fun c => absurd rfl c)
      refine wp_steps (i' := 948) (ls' := [some (.ref 1), some (.ref 100), some (.ref 381), some (.ref 391), some (.int (nI i)), some (.int kk), some (.int b)]) (st' := [.int kk]) (h' := h2) (P := True) 1 rfl rfl trivial ?_
      refine wp_br (P := True) (c := ¬ kk = 0) (t := 958) (st' := []) rfl rfl trivial (fun _ => ?_) (fun c => ?_)
      · refine wp_J (j := 1565) (st' := []) rfl rfl ?_
        exact K h2 _ _ g2 bd (sc1_tr s1 (sc1_tr ⟨by rw [hmd.2.2.2.1], by rw [hmd.2.2.2.2]⟩ s2))
      · have c0 := el (Decidable.of_not_not c)
        rw [← ql] at c0
        refine wp_steps (i' := 955) (ls' := [some (.ref 1), some (.ref 100), some (.ref 381), some (.ref 391), some (.int (nI i)), some (.int kk), some (.int b)]) (st' := [.int (lg_cmp (mx_l h2 391 0) b.toInt64)]) (h' := h2) (P := (((mxT 391).1 = 52 ∧ mxG h2) ∧ vp_in 0 (mxT 391).2) ∧ True) 6 rfl rfl ⟨cA sT_391 G2 (vpl rfl), trivial⟩ ?_
        refine wp_br (P := True) (c := lg_cmp (mx_l h2 391 0) b.toInt64 = 0) (t := 958) (st' := []) rfl rfl trivial (fun _ => ?_) (fun c => absurd c0 c)
        refine wp_J (j := 1565) (st' := []) rfl rfl ?_
        exact K h2 _ _ g2 bd (sc1_tr s1 (sc1_tr ⟨by rw [hmd.2.2.2.1], by rw [hmd.2.2.2.2]⟩ s2))
    refine wp_steps (i' := 917) (ls' := [some (.ref 1), some (.ref 100), some (.ref 381), some (.ref 391), some (.int (nI i)), w5, w6]) (st' := [.int (mx_i h 1 (nI i + 2).toNatClampNeg), .int (mx_i h 1 (nI i + 1).toNatClampNeg), .ref 100]) (h' := h) (P := (1 = 1 ∧ vp_in (nI i + 1) (mx_r h 1 0)) ∧ (1 = 1 ∧ vp_in (nI i + 2) (mx_r h 1 0)) ∧ True) 11 rfl rfl ⟨⟨rfl, vpi hL hi hL2 (j := 1) (by decide)⟩, ⟨rfl, vpi hL hi hL2 (j := 2) (by decide)⟩, trivial⟩ ?_
    refine wp_br (P := True) (c := (mx_i h 1 (nI i + 2).toNatClampNeg) = 0) (t := 920) (st' := [.int (mx_i h 1 (nI i + 1).toNatClampNeg), .ref 100]) rfl rfl trivial (fun c => ?_) (fun c => ?_)
    · exact absurd c cb
    refine wp_steps (i' := 919) (ls' := [some (.ref 1), some (.ref 100), some (.ref 381), some (.ref 391), some (.int (nI i)), w5, w6]) (st' := [.int 1, .int (mx_i h 1 (nI i + 1).toNatClampNeg), .ref 100]) (h' := h) (P := True) 1 rfl rfl trivial ?_
    refine wp_J (j := 921) (st' := [.int 1, .int (mx_i h 1 (nI i + 1).toNatClampNeg), .ref 100]) rfl rfl ?_
    refine wp_steps (i' := 922) (ls' := [some (.ref 1), some (.ref 100), some (.ref 381), some (.ref 391), some (.int (nI i)), w5, w6]) (st' := [.ref 391, .int 1, .int (mx_i h 1 (nI i + 1).toNatClampNeg), .ref 100]) (h' := h) (P := True) 1 rfl rfl trivial ?_
    refine wp_call (b := false) (y' := 334) (as := [.ref 100, .int (mx_i h 1 (nI i + 1).toNatClampNeg), .int 1, .ref 391]) (rest := []) (P := True) rfl (by with_unfolding_all rfl) trivial (Nat.le_of_ble_eq_true rfl) (wr_334 G (mx_wp.mono (fun o h1 q => ?_) (wp_dm (by decide : 500 ≤ 998) (wp_S1 (wp_G (by decide +kernel) G (O (mx_i h 1 (nI i + 1).toNatClampNeg) 1 h vn vd vr vq np ns nl I))))))
    obtain ⟨s1, G1, post⟩ := q
    obtain ⟨n0, o20, h20, e0, b0, eb0, an0, r0⟩ := post h1 mdl_rfl
    refine ⟨G1, ?_⟩
    rcases ans_cases an0 with ⟨v, rfl, -, -⟩ | ⟨kx, rfl, -, q⟩
    · show mx_wp 1000 346 923 [some (.ref 1), some (.ref 100), some (.ref 381), some (.ref 391), some (.int (nI i)), w5, w6] [.int 0] (mx_wl h1 391 0 v.toInt64) Qf
      refine step _ h1 _ 0 G1 s1 post mdl_wl (fun b t a => ⟨a.1, fun _ => ?_⟩)
      have hvb : v = b := a.2
      rw [wl_at, hvb]; exact lgc _
    · refine ⟨code kx, hcs kx q, ?_⟩
      show mx_wp 1000 346 923 [some (.ref 1), some (.ref 100), some (.ref 381), some (.ref 391), some (.int (nI i)), w5, w6] [.int (code kx)] h1 Qf
      exact step _ h1 _ _ G1 s1 post mdl_rfl (fun b t a => ⟨a.1, fun e => absurd e q⟩)
set_option maxRecDepth 8000 in
theorem cs_1 {LW : mxLW} {h : mxH} {i L : Nat} {w5 w6 : Option Value} {Qf : mxO → mxH → Prop} {code : Nat → Int32} (O : ∀ x0 : Int32, Op LW 133 208 [.int x0] code) (hcode : ∀ k, code k = 0) (g : GS LW h) (hL : mx_r h 1 0 = L) (hi : i + 6 ≤ L) (hL2 : L ≤ 3072) (K : ∀ (h2 : mxH) (w5 w6 : Option Value), GS LW h2 → bud h h2 → sc1 h h2 → mx_wp 1000 346 1565 [some (.ref 1), some (.ref 100), some (.ref 381), some (.ref 391), some (.int (nI i)), w5, w6] [] h2 Qf) : mx_wp 1000 346 82 [some (.ref 1), some (.ref 100), some (.ref 381), some (.ref 391), some (.int (nI i)), w5, w6] [] h Qf := by
  have G := GS_G g
  obtain ⟨vn, vd, vr, vq, np, ns, nl, I⟩ := g
  refine wp_steps (i' := 88) (ls' := [some (.ref 1), some (.ref 100), some (.ref 381), some (.ref 391), some (.int (nI i)), w5, w6]) (st' := [.int (mx_i h 1 (nI i + 1).toNatClampNeg), .ref 100]) (h' := h) (P := (1 = 1 ∧ vp_in (nI i + 1) (mx_r h 1 0)) ∧ True) 6 rfl rfl ⟨⟨rfl, vpi hL hi hL2 (j := 1) (by decide)⟩, trivial⟩ ?_
  refine wp_call (b := false) (y' := 133) (as := [.ref 100, .int (mx_i h 1 (nI i + 1).toNatClampNeg)]) (rest := []) (P := ((mxT 100).1 = mxRc 133 ∧ mxG h)) rfl (by with_unfolding_all rfl) ⟨congrArg Prod.fst sT_100, G⟩ (Nat.le_of_ble_eq_true rfl) (mx_wp.mono (fun o h1 q => ?_) (wp_dm (by decide : 500 ≤ 999) (wp_S1 (wp_G (by decide +kernel) G (O (mx_i h 1 (nI i + 1).toNatClampNeg) h vn vd vr vq np ns nl I)))))
  obtain ⟨s1, G1, post⟩ := q
  obtain ⟨n0, o20, h20, e0, b0, eb0, an0, r0⟩ := post h1 mdl_rfl
  rcases ans_cases an0 with ⟨v, rfl, -, -⟩ | ⟨kx, -, -, q⟩
  rotate_left
  · exact absurd (hcode kx) q
  show mx_wp 1000 346 89 [some (.ref 1), some (.ref 100), some (.ref 381), some (.ref 391), some (.int (nI i)), w5, w6] [.int v] h1 Qf
  have hL1 : mx_r h1 1 0 = L := by rw [s1.2]; exact hL
  have sch : mx_i h1 1 = mx_i h 1 := s1.1
  refine wp_steps (i' := 95) (ls' := [some (.ref 1), some (.ref 100), some (.ref 381), some (.ref 391), some (.int (nI i)), w5, w6]) (st' := [.int (mx_i h1 1 (nI i + 1).toNatClampNeg), .ref 381, .int v]) (h' := h1) (P := (1 = 1 ∧ vp_in (nI i + 1) (mx_r h1 1 0)) ∧ True) 6 rfl rfl ⟨⟨rfl, vpi hL1 hi hL2 (j := 1) (by decide)⟩, trivial⟩ ?_
  rw [sch]
  refine wp_call (b := false) (y' := 208) (as := [.ref 381, .int (mx_i h 1 (nI i + 1).toNatClampNeg)]) (rest := [.int v]) (P := ((mxT 381).1 = mxRc 208 ∧ mxG h1)) rfl (by with_unfolding_all rfl) ⟨congrArg Prod.fst sT_381, G1⟩ (Nat.le_of_ble_eq_true rfl) (mx_wp.mono (fun o h2 q => ?_) (wp_dm (by decide : 500 ≤ 999) (wp_S1 (post h1 mdl_rfl))))
  obtain ⟨s2, b, rfl, an, bd, g2⟩ := q
  have evb : v = b := an.2
  show mx_wp 1000 346 96 [some (.ref 1), some (.ref 100), some (.ref 381), some (.ref 391), some (.int (nI i)), w5, w6] [.int b, .int v] h2 Qf
  refine wp_br (P := True) (c := v = b) (t := 1565) (st' := []) rfl rfl trivial (fun _ => ?_) (fun c => absurd evb c)
  exact K h2 _ _ g2 bd (sc1_tr s1 s2)
set_option maxRecDepth 8000 in
theorem cs_43 {LW : mxLW} {h : mxH} {i L : Nat} {w5 w6 : Option Value} {Qf : mxO → mxH → Prop} (O : OpV LW 180 301) (g : GS LW h) (hL : mx_r h 1 0 = L) (hi : i + 6 ≤ L) (hL2 : L ≤ 3072) (K : ∀ (h2 : mxH) (w5 w6 : Option Value), GS LW h2 → bud h h2 → sc1 h h2 → mx_wp 1000 346 1565 [some (.ref 1), some (.ref 100), some (.ref 381), some (.ref 391), some (.int (nI i)), w5, w6] [] h2 Qf) : mx_wp 1000 346 1536 [some (.ref 1), some (.ref 100), some (.ref 381), some (.ref 391), some (.int (nI i)), w5, w6] [] h Qf := by
  have G := GS_G g
  obtain ⟨vn, vd, vr, vq, np, ns, nl, I⟩ := g
  refine wp_steps (i' := 1537) (ls' := [some (.ref 1), some (.ref 100), some (.ref 381), some (.ref 391), some (.int (nI i)), w5, w6]) (st' := [.ref 100]) (h' := h) (P := True) 1 rfl rfl trivial ?_
  refine wp_call (b := false) (y' := 180) (as := [.ref 100]) (rest := []) (P := ((mxT 100).1 = mxRc 180 ∧ mxG h)) rfl (by with_unfolding_all rfl) ⟨congrArg Prod.fst sT_100, G⟩ (Nat.le_of_ble_eq_true rfl) (mx_wp.mono (fun o h1 q => ?_) (wp_dm (by decide : 500 ≤ 999) (wp_S1 (wp_G (by decide +kernel) G (O h vn vd vr vq np ns nl I)))))
  obtain ⟨s1, G1, rfl, post⟩ := q
  show mx_wp 1000 346 1538 [some (.ref 1), some (.ref 100), some (.ref 381), some (.ref 391), some (.int (nI i)), w5, w6] [] h1 Qf
  refine wp_steps (i' := 1539) (ls' := [some (.ref 1), some (.ref 100), some (.ref 381), some (.ref 391), some (.int (nI i)), w5, w6]) (st' := [.ref 381]) (h' := h1) (P := True) 1 rfl rfl trivial ?_
  refine wp_call (b := false) (y' := 301) (as := [.ref 381]) (rest := []) (P := ((mxT 381).1 = mxRc 301 ∧ mxG h1)) rfl (by with_unfolding_all rfl) ⟨congrArg Prod.fst sT_381, G1⟩ (Nat.le_of_ble_eq_true rfl) (mx_wp.mono (fun o h2 q => ?_) (wp_dm (by decide : 500 ≤ 999) (wp_S1 (post h1 mdl_rfl))))
  obtain ⟨s2, rfl, bd, g2⟩ := q
  show mx_wp 1000 346 1540 [some (.ref 1), some (.ref 100), some (.ref 381), some (.ref 391), some (.int (nI i)), w5, w6] [] h2 Qf
  refine wp_J (j := 1565) (st' := []) rfl rfl ?_
  exact K h2 _ _ g2 bd (sc1_tr s1 s2)
