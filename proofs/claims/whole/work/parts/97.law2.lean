/-! THE LAW'S CASES, 2 -/
set_option maxRecDepth 8000 in
theorem cs_24 {LW : mxLW} {h : mxH} {i L : Nat} {w5 w6 : Option Value} {Qf : mxO → mxH → Prop} {code : Nat → Int32} (O : ∀ x0 x1 : Int32, Op LW 163 273 [.int x0, .int x1] code) (hcs : ∀ k, code k ≠ 0 → (k, code k) ∈ ([(2, 1)] : List (Nat × Int32))) (g : GS LW h) (hL : mx_r h 1 0 = L) (hi : i + 6 ≤ L) (hL2 : L ≤ 3072) (K : ∀ (h2 : mxH) (w5 w6 : Option Value), GS LW h2 → bud h h2 → sc1 h h2 → mx_wp 1000 346 1565 [some (.ref 1), some (.ref 100), some (.ref 381), some (.ref 391), some (.int (nI i)), w5, w6] [] h2 Qf) : mx_wp 1000 346 906 [some (.ref 1), some (.ref 100), some (.ref 381), some (.ref 391), some (.int (nI i)), w5, w6] [] h Qf := by
  have G := GS_G g
  obtain ⟨vn, vd, vr, vq, np, ns, nl, I⟩ := g
  by_cases cb : (mx_i h 1 (nI i + 2).toNatClampNeg) = 0
  · skip
    have step : ∀ (o : mxO) (h1 hm : mxH) (kk : Int32), mxG h1 → sc1 h h1 → (∀ hm, mdl h1 hm → mx_wp 500 273 0 (mx_fr 273 [.ref 381, .int (mx_i h 1 (nI i + 1).toNatClampNeg), .int 0]) [] hm (fun o2 h2 => ∃ b, o2 = .inl (some (.int b)) ∧ ansOk code o b (mx_i h2 381 0) ∧ bud h h2 ∧ GS LW h2)) → mdl h1 hm → (∀ b t, ansOk code o b t → t = kk ∧ (kk = 0 → lg_cmp (mx_l hm 391 0) b.toInt64 = 0)) → mx_wp 1000 346 923 [some (.ref 1), some (.ref 100), some (.ref 381), some (.ref 391), some (.int (nI i)), w5, w6] [.int kk] hm Qf := by
      intro o h1 hm kk G1 s1 post hmd hk
      have sch : mx_i hm 1 = mx_i h 1 := by rw [hmd.2.2.2.1]; exact s1.1
      have hLm : mx_r hm 1 0 = L := by rw [hmd.2.2.2.2, s1.2.1]; exact hL
      have Gm : mxG hm := agr_G (P := fun _ => False) (agr_mdl hmd) G1
      refine wp_steps (i' := 924) (ls' := [some (.ref 1), some (.ref 100), some (.ref 381), some (.ref 391), some (.int (nI i)), some (.int kk), w6]) (st' := []) (h' := hm) (P := True) 1 rfl rfl trivial ?_
      refine wp_steps (i' := 935) (ls' := [some (.ref 1), some (.ref 100), some (.ref 381), some (.ref 391), some (.int (nI i)), some (.int kk), w6]) (st' := [.int (mx_i hm 1 (nI i + 2).toNatClampNeg), .int (mx_i hm 1 (nI i + 1).toNatClampNeg), .ref 381]) (h' := hm) (P := (1 = 1 ∧ vp_in (nI i + 1) (mx_r hm 1 0)) ∧ (1 = 1 ∧ vp_in (nI i + 2) (mx_r hm 1 0)) ∧ True) 11 rfl rfl ⟨⟨rfl, vpi hLm hi hL2 (j := 1) (by decide)⟩, ⟨rfl, vpi hLm hi hL2 (j := 2) (by decide)⟩, trivial⟩ ?_
      refine wp_br (P := True) (c := (mx_i hm 1 (nI i + 2).toNatClampNeg) = 0) (t := 938) (st' := [.int (mx_i hm 1 (nI i + 1).toNatClampNeg), .ref 381]) rfl rfl trivial (fun c => ?_) (fun c => ?_)
      rotate_left
      · exact absurd (by rw [sch]; exact cb) c
      refine wp_steps (i' := 939) (ls' := [some (.ref 1), some (.ref 100), some (.ref 381), some (.ref 391), some (.int (nI i)), some (.int kk), w6]) (st' := [.int 0, .int (mx_i hm 1 (nI i + 1).toNatClampNeg), .ref 381]) (h' := hm) (P := True) 1 rfl rfl trivial ?_
      rw [sch]
      refine wp_call (b := false) (y' := 273) (as := [.ref 381, .int (mx_i h 1 (nI i + 1).toNatClampNeg), .int 0]) (rest := []) (P := ((mxT 381).1 = mxRc 273 ∧ mxG hm)) rfl (by with_unfolding_all rfl) ⟨congrArg Prod.fst sT_381, Gm⟩ (Nat.le_of_ble_eq_true rfl) (mx_wp.mono (fun o2 h2 q => ?_) (wp_dm (by decide : 500 ≤ 999) (wp_L (by decide +kernel) Gm (wp_S1 (post hm hmd)))))
      obtain ⟨ql, s2, b, rfl, an, bd, g2⟩ := q
      obtain ⟨et, el⟩ := hk b _ an
      have G2 := GS_G g2
      show mx_wp 1000 346 940 [some (.ref 1), some (.ref 100), some (.ref 381), some (.ref 391), some (.int (nI i)), some (.int kk), w6] [.int b] h2 Qf
      refine wp_steps (i' := 942) (ls' := [some (.ref 1), some (.ref 100), some (.ref 381), some (.ref 391), some (.int (nI i)), some (.int kk), some (.int b)]) (st' := [.ref 381]) (h' := h2) (P := True) 2 rfl rfl trivial ?_
      refine wp_call (b := false) (y' := 190) (as := [.ref 381]) (rest := []) (P := ((mxT 381).1 = mxRc 190 ∧ mxG h2)) rfl (by with_unfolding_all rfl) ⟨congrArg Prod.fst sT_381, G2⟩ (Nat.le_of_ble_eq_true rfl) (tr_190_0 G2 ?_)
      show mx_wp 1000 346 943 [some (.ref 1), some (.ref 100), some (.ref 381), some (.ref 391), some (.int (nI i)), some (.int kk), some (.int b)] [.int (mx_i h2 381 0)] h2 Qf
      rw [et]
      refine wp_steps (i' := 944) (ls' := [some (.ref 1), some (.ref 100), some (.ref 381), some (.ref 391), some (.int (nI i)), some (.int kk), some (.int b)]) (st' := [.int kk, .int kk]) (h' := h2) (P := True) 1 rfl rfl trivial ?_
      refine wp_br (P := True) (c := kk = kk) (t := 947) (st' := []) rfl rfl trivial (fun _ => ?_) (fun c => absurd rfl c)
      refine wp_steps (i' := 948) (ls' := [some (.ref 1), some (.ref 100), some (.ref 381), some (.ref 391), some (.int (nI i)), some (.int kk), some (.int b)]) (st' := [.int kk]) (h' := h2) (P := True) 1 rfl rfl trivial ?_
      refine wp_br (P := True) (c := ¬ kk = 0) (t := 958) (st' := []) rfl rfl trivial (fun _ => ?_) (fun c => ?_)
      · refine wp_J (j := 1565) (st' := []) rfl rfl ?_
        exact K h2 _ _ g2 bd (sc1_tr s1 (sc1_tr (sc1_mdl hmd) s2))
      · have c0 := el (Decidable.of_not_not c)
        rw [← ql] at c0
        refine wp_steps (i' := 955) (ls' := [some (.ref 1), some (.ref 100), some (.ref 381), some (.ref 391), some (.int (nI i)), some (.int kk), some (.int b)]) (st' := [.int (lg_cmp (mx_l h2 391 0) b.toInt64)]) (h' := h2) (P := (((mxT 391).1 = 52 ∧ mxG h2) ∧ vp_in 0 (mxT 391).2) ∧ True) 6 rfl rfl ⟨cA sT_391 G2 (vpl rfl), trivial⟩ ?_
        refine wp_br (P := True) (c := lg_cmp (mx_l h2 391 0) b.toInt64 = 0) (t := 958) (st' := []) rfl rfl trivial (fun _ => ?_) (fun c => absurd c0 c)
        refine wp_J (j := 1565) (st' := []) rfl rfl ?_
        exact K h2 _ _ g2 bd (sc1_tr s1 (sc1_tr (sc1_mdl hmd) s2))
    refine wp_steps (i' := 917) (ls' := [some (.ref 1), some (.ref 100), some (.ref 381), some (.ref 391), some (.int (nI i)), w5, w6]) (st' := [.int (mx_i h 1 (nI i + 2).toNatClampNeg), .int (mx_i h 1 (nI i + 1).toNatClampNeg), .ref 100]) (h' := h) (P := (1 = 1 ∧ vp_in (nI i + 1) (mx_r h 1 0)) ∧ (1 = 1 ∧ vp_in (nI i + 2) (mx_r h 1 0)) ∧ True) 11 rfl rfl ⟨⟨rfl, vpi hL hi hL2 (j := 1) (by decide)⟩, ⟨rfl, vpi hL hi hL2 (j := 2) (by decide)⟩, trivial⟩ ?_
    refine wp_br (P := True) (c := (mx_i h 1 (nI i + 2).toNatClampNeg) = 0) (t := 920) (st' := [.int (mx_i h 1 (nI i + 1).toNatClampNeg), .ref 100]) rfl rfl trivial (fun c => ?_) (fun c => ?_)
    rotate_left
    · exact absurd cb c
    refine wp_steps (i' := 921) (ls' := [some (.ref 1), some (.ref 100), some (.ref 381), some (.ref 391), some (.int (nI i)), w5, w6]) (st' := [.int 0, .int (mx_i h 1 (nI i + 1).toNatClampNeg), .ref 100]) (h' := h) (P := True) 1 rfl rfl trivial ?_
    refine wp_steps (i' := 922) (ls' := [some (.ref 1), some (.ref 100), some (.ref 381), some (.ref 391), some (.int (nI i)), w5, w6]) (st' := [.ref 391, .int 0, .int (mx_i h 1 (nI i + 1).toNatClampNeg), .ref 100]) (h' := h) (P := True) 1 rfl rfl trivial ?_
    refine wp_call (b := false) (y' := 334) (as := [.ref 100, .int (mx_i h 1 (nI i + 1).toNatClampNeg), .int 0, .ref 391]) (rest := []) (P := True) rfl (by with_unfolding_all rfl) trivial (Nat.le_of_ble_eq_true rfl) (wr_334 G (mx_wp.mono (fun o h1 q => ?_) (wp_dm (by decide : 500 ≤ 998) (wp_S1 (wp_G (by decide +kernel) G (O (mx_i h 1 (nI i + 1).toNatClampNeg) 0 h vn vd vr vq np ns nl I))))))
    obtain ⟨s1, G1, post⟩ := q
    obtain ⟨n0, o20, h20, e0, b0, eb0, an0, r0⟩ := post h1 mdl_rfl
    refine ⟨G1, ?_⟩
    rcases ans_cases an0 with ⟨v, rfl, -, -⟩ | ⟨kx, rfl, -, q⟩
    · show mx_wp 1000 346 923 [some (.ref 1), some (.ref 100), some (.ref 381), some (.ref 391), some (.int (nI i)), w5, w6] [.int 0] (mx_wl h1 391 0 v.toInt64) Qf
      refine step _ h1 _ 0 G1 s1 post mdl_wl (fun b t a => ⟨a.1, fun _ => ?_⟩)
      have hvb : v = b := a.2
      rw [wl_at, hvb]; exact lgc _
    · refine ⟨code kx, hcs kx q, ?_⟩
      show mx_wp 1000 346 923 [some (.ref 1), some (.ref 100), some (.ref 381), some (.ref 391), some (.int (nI i)), w5, w6] [.int (code kx)] h1 Qf
      exact step _ h1 _ _ G1 s1 post mdl_rfl (fun b t a => ⟨a.1, fun e => absurd e q⟩)
  · skip
    have step : ∀ (o : mxO) (h1 hm : mxH) (kk : Int32), mxG h1 → sc1 h h1 → (∀ hm, mdl h1 hm → mx_wp 500 273 0 (mx_fr 273 [.ref 381, .int (mx_i h 1 (nI i + 1).toNatClampNeg), .int 1]) [] hm (fun o2 h2 => ∃ b, o2 = .inl (some (.int b)) ∧ ansOk code o b (mx_i h2 381 0) ∧ bud h h2 ∧ GS LW h2)) → mdl h1 hm → (∀ b t, ansOk code o b t → t = kk ∧ (kk = 0 → lg_cmp (mx_l hm 391 0) b.toInt64 = 0)) → mx_wp 1000 346 923 [some (.ref 1), some (.ref 100), some (.ref 381), some (.ref 391), some (.int (nI i)), w5, w6] [.int kk] hm Qf := by
      intro o h1 hm kk G1 s1 post hmd hk
      have sch : mx_i hm 1 = mx_i h 1 := by rw [hmd.2.2.2.1]; exact s1.1
      have hLm : mx_r hm 1 0 = L := by rw [hmd.2.2.2.2, s1.2.1]; exact hL
      have Gm : mxG hm := agr_G (P := fun _ => False) (agr_mdl hmd) G1
      refine wp_steps (i' := 924) (ls' := [some (.ref 1), some (.ref 100), some (.ref 381), some (.ref 391), some (.int (nI i)), some (.int kk), w6]) (st' := []) (h' := hm) (P := True) 1 rfl rfl trivial ?_
      refine wp_steps (i' := 935) (ls' := [some (.ref 1), some (.ref 100), some (.ref 381), some (.ref 391), some (.int (nI i)), some (.int kk), w6]) (st' := [.int (mx_i hm 1 (nI i + 2).toNatClampNeg), .int (mx_i hm 1 (nI i + 1).toNatClampNeg), .ref 381]) (h' := hm) (P := (1 = 1 ∧ vp_in (nI i + 1) (mx_r hm 1 0)) ∧ (1 = 1 ∧ vp_in (nI i + 2) (mx_r hm 1 0)) ∧ True) 11 rfl rfl ⟨⟨rfl, vpi hLm hi hL2 (j := 1) (by decide)⟩, ⟨rfl, vpi hLm hi hL2 (j := 2) (by decide)⟩, trivial⟩ ?_
      refine wp_br (P := True) (c := (mx_i hm 1 (nI i + 2).toNatClampNeg) = 0) (t := 938) (st' := [.int (mx_i hm 1 (nI i + 1).toNatClampNeg), .ref 381]) rfl rfl trivial (fun c => ?_) (fun c => ?_)
      · exact absurd c (by rw [sch]; exact cb)
      refine wp_steps (i' := 937) (ls' := [some (.ref 1), some (.ref 100), some (.ref 381), some (.ref 391), some (.int (nI i)), some (.int kk), w6]) (st' := [.int 1, .int (mx_i hm 1 (nI i + 1).toNatClampNeg), .ref 381]) (h' := hm) (P := True) 1 rfl rfl trivial ?_
      refine wp_J (j := 939) (st' := [.int 1, .int (mx_i hm 1 (nI i + 1).toNatClampNeg), .ref 381]) rfl rfl ?_
      rw [sch]
      refine wp_call (b := false) (y' := 273) (as := [.ref 381, .int (mx_i h 1 (nI i + 1).toNatClampNeg), .int 1]) (rest := []) (P := ((mxT 381).1 = mxRc 273 ∧ mxG hm)) rfl (by with_unfolding_all rfl) ⟨congrArg Prod.fst sT_381, Gm⟩ (Nat.le_of_ble_eq_true rfl) (mx_wp.mono (fun o2 h2 q => ?_) (wp_dm (by decide : 500 ≤ 999) (wp_L (by decide +kernel) Gm (wp_S1 (post hm hmd)))))
      obtain ⟨ql, s2, b, rfl, an, bd, g2⟩ := q
      obtain ⟨et, el⟩ := hk b _ an
      have G2 := GS_G g2
      show mx_wp 1000 346 940 [some (.ref 1), some (.ref 100), some (.ref 381), some (.ref 391), some (.int (nI i)), some (.int kk), w6] [.int b] h2 Qf
      refine wp_steps (i' := 942) (ls' := [some (.ref 1), some (.ref 100), some (.ref 381), some (.ref 391), some (.int (nI i)), some (.int kk), some (.int b)]) (st' := [.ref 381]) (h' := h2) (P := True) 2 rfl rfl trivial ?_
      refine wp_call (b := false) (y' := 190) (as := [.ref 381]) (rest := []) (P := ((mxT 381).1 = mxRc 190 ∧ mxG h2)) rfl (by with_unfolding_all rfl) ⟨congrArg Prod.fst sT_381, G2⟩ (Nat.le_of_ble_eq_true rfl) (tr_190_0 G2 ?_)
      show mx_wp 1000 346 943 [some (.ref 1), some (.ref 100), some (.ref 381), some (.ref 391), some (.int (nI i)), some (.int kk), some (.int b)] [.int (mx_i h2 381 0)] h2 Qf
      rw [et]
      refine wp_steps (i' := 944) (ls' := [some (.ref 1), some (.ref 100), some (.ref 381), some (.ref 391), some (.int (nI i)), some (.int kk), some (.int b)]) (st' := [.int kk, .int kk]) (h' := h2) (P := True) 1 rfl rfl trivial ?_
      refine wp_br (P := True) (c := kk = kk) (t := 947) (st' := []) rfl rfl trivial (fun _ => ?_) (fun c => absurd rfl c)
      refine wp_steps (i' := 948) (ls' := [some (.ref 1), some (.ref 100), some (.ref 381), some (.ref 391), some (.int (nI i)), some (.int kk), some (.int b)]) (st' := [.int kk]) (h' := h2) (P := True) 1 rfl rfl trivial ?_
      refine wp_br (P := True) (c := ¬ kk = 0) (t := 958) (st' := []) rfl rfl trivial (fun _ => ?_) (fun c => ?_)
      · refine wp_J (j := 1565) (st' := []) rfl rfl ?_
        exact K h2 _ _ g2 bd (sc1_tr s1 (sc1_tr (sc1_mdl hmd) s2))
      · have c0 := el (Decidable.of_not_not c)
        rw [← ql] at c0
        refine wp_steps (i' := 955) (ls' := [some (.ref 1), some (.ref 100), some (.ref 381), some (.ref 391), some (.int (nI i)), some (.int kk), some (.int b)]) (st' := [.int (lg_cmp (mx_l h2 391 0) b.toInt64)]) (h' := h2) (P := (((mxT 391).1 = 52 ∧ mxG h2) ∧ vp_in 0 (mxT 391).2) ∧ True) 6 rfl rfl ⟨cA sT_391 G2 (vpl rfl), trivial⟩ ?_
        refine wp_br (P := True) (c := lg_cmp (mx_l h2 391 0) b.toInt64 = 0) (t := 958) (st' := []) rfl rfl trivial (fun _ => ?_) (fun c => absurd c0 c)
        refine wp_J (j := 1565) (st' := []) rfl rfl ?_
        exact K h2 _ _ g2 bd (sc1_tr s1 (sc1_tr (sc1_mdl hmd) s2))
    refine wp_steps (i' := 917) (ls' := [some (.ref 1), some (.ref 100), some (.ref 381), some (.ref 391), some (.int (nI i)), w5, w6]) (st' := [.int (mx_i h 1 (nI i + 2).toNatClampNeg), .int (mx_i h 1 (nI i + 1).toNatClampNeg), .ref 100]) (h' := h) (P := (1 = 1 ∧ vp_in (nI i + 1) (mx_r h 1 0)) ∧ (1 = 1 ∧ vp_in (nI i + 2) (mx_r h 1 0)) ∧ True) 11 rfl rfl ⟨⟨rfl, vpi hL hi hL2 (j := 1) (by decide)⟩, ⟨rfl, vpi hL hi hL2 (j := 2) (by decide)⟩, trivial⟩ ?_
    refine wp_br (P := True) (c := (mx_i h 1 (nI i + 2).toNatClampNeg) = 0) (t := 920) (st' := [.int (mx_i h 1 (nI i + 1).toNatClampNeg), .ref 100]) rfl rfl trivial (fun c => ?_) (fun c => ?_)
    · exact absurd c cb
    refine wp_steps (i' := 919) (ls' := [some (.ref 1), some (.ref 100), some (.ref 381), some (.ref 391), some (.int (nI i)), w5, w6]) (st' := [.int 1, .int (mx_i h 1 (nI i + 1).toNatClampNeg), .ref 100]) (h' := h) (P := True) 1 rfl rfl trivial ?_
    refine wp_J (j := 921) (st' := [.int 1, .int (mx_i h 1 (nI i + 1).toNatClampNeg), .ref 100]) rfl rfl ?_
    refine wp_steps (i' := 922) (ls' := [some (.ref 1), some (.ref 100), some (.ref 381), some (.ref 391), some (.int (nI i)), w5, w6]) (st' := [.ref 391, .int 1, .int (mx_i h 1 (nI i + 1).toNatClampNeg), .ref 100]) (h' := h) (P := True) 1 rfl rfl trivial ?_
    refine wp_call (b := false) (y' := 334) (as := [.ref 100, .int (mx_i h 1 (nI i + 1).toNatClampNeg), .int 1, .ref 391]) (rest := []) (P := True) rfl (by with_unfolding_all rfl) trivial (Nat.le_of_ble_eq_true rfl) (wr_334 G (mx_wp.mono (fun o h1 q => ?_) (wp_dm (by decide : 500 ≤ 998) (wp_S1 (wp_G (by decide +kernel) G (O (mx_i h 1 (nI i + 1).toNatClampNeg) 1 h vn vd vr vq np ns nl I))))))
    obtain ⟨s1, G1, post⟩ := q
    obtain ⟨n0, o20, h20, e0, b0, eb0, an0, r0⟩ := post h1 mdl_rfl
    refine ⟨G1, ?_⟩
    rcases ans_cases an0 with ⟨v, rfl, -, -⟩ | ⟨kx, rfl, -, q⟩
    · show mx_wp 1000 346 923 [some (.ref 1), some (.ref 100), some (.ref 381), some (.ref 391), some (.int (nI i)), w5, w6] [.int 0] (mx_wl h1 391 0 v.toInt64) Qf
      refine step _ h1 _ 0 G1 s1 post mdl_wl (fun b t a => ⟨a.1, fun _ => ?_⟩)
      have hvb : v = b := a.2
      rw [wl_at, hvb]; exact lgc _
    · refine ⟨code kx, hcs kx q, ?_⟩
      show mx_wp 1000 346 923 [some (.ref 1), some (.ref 100), some (.ref 381), some (.ref 391), some (.int (nI i)), w5, w6] [.int (code kx)] h1 Qf
      exact step _ h1 _ _ G1 s1 post mdl_rfl (fun b t a => ⟨a.1, fun e => absurd e q⟩)
set_option maxRecDepth 8000 in
theorem cs_25 {LW : mxLW} {h : mxH} {i L : Nat} {w5 w6 : Option Value} {Qf : mxO → mxH → Prop} {code : Nat → Int32} (O : ∀ x0 : Int32, Op LW 169 274 [.int x0] code) (hcs : ∀ k, code k ≠ 0 → (k, code k) ∈ ([(2, 1)] : List (Nat × Int32))) (g : GS LW h) (hL : mx_r h 1 0 = L) (hi : i + 6 ≤ L) (hL2 : L ≤ 3072) (K : ∀ (h2 : mxH) (w5 w6 : Option Value), GS LW h2 → bud h h2 → sc1 h h2 → mx_wp 1000 346 1565 [some (.ref 1), some (.ref 100), some (.ref 381), some (.ref 391), some (.int (nI i)), w5, w6] [] h2 Qf) : mx_wp 1000 346 959 [some (.ref 1), some (.ref 100), some (.ref 381), some (.ref 391), some (.int (nI i)), w5, w6] [] h Qf := by
  have G := GS_G g
  obtain ⟨vn, vd, vr, vq, np, ns, nl, I⟩ := g
  have step : ∀ (o : mxO) (h1 hm : mxH) (kk : Int32), mxG h1 → sc1 h h1 → (∀ hm, mdl h1 hm → mx_wp 500 274 0 (mx_fr 274 [.ref 381, .int (mx_i h 1 (nI i + 1).toNatClampNeg)]) [] hm (fun o2 h2 => ∃ b, o2 = .inl (some (.int b)) ∧ ansOk code o b (mx_i h2 381 0) ∧ bud h h2 ∧ GS LW h2)) → mdl h1 hm → (∀ b t, ansOk code o b t → t = kk ∧ (kk = 0 → lg_cmp (mx_l hm 391 0) b.toInt64 = 0)) → mx_wp 1000 346 967 [some (.ref 1), some (.ref 100), some (.ref 381), some (.ref 391), some (.int (nI i)), w5, w6] [.int kk] hm Qf := by
    intro o h1 hm kk G1 s1 post hmd hk
    have sch : mx_i hm 1 = mx_i h 1 := by rw [hmd.2.2.2.1]; exact s1.1
    have hLm : mx_r hm 1 0 = L := by rw [hmd.2.2.2.2, s1.2.1]; exact hL
    have Gm : mxG hm := agr_G (P := fun _ => False) (agr_mdl hmd) G1
    refine wp_steps (i' := 968) (ls' := [some (.ref 1), some (.ref 100), some (.ref 381), some (.ref 391), some (.int (nI i)), some (.int kk), w6]) (st' := []) (h' := hm) (P := True) 1 rfl rfl trivial ?_
    refine wp_steps (i' := 974) (ls' := [some (.ref 1), some (.ref 100), some (.ref 381), some (.ref 391), some (.int (nI i)), some (.int kk), w6]) (st' := [.int (mx_i hm 1 (nI i + 1).toNatClampNeg), .ref 381]) (h' := hm) (P := (1 = 1 ∧ vp_in (nI i + 1) (mx_r hm 1 0)) ∧ True) 6 rfl rfl ⟨⟨rfl, vpi hLm hi hL2 (j := 1) (by decide)⟩, trivial⟩ ?_
    rw [sch]
    refine wp_call (b := false) (y' := 274) (as := [.ref 381, .int (mx_i h 1 (nI i + 1).toNatClampNeg)]) (rest := []) (P := ((mxT 381).1 = mxRc 274 ∧ mxG hm)) rfl (by with_unfolding_all rfl) ⟨congrArg Prod.fst sT_381, Gm⟩ (Nat.le_of_ble_eq_true rfl) (mx_wp.mono (fun o2 h2 q => ?_) (wp_dm (by decide : 500 ≤ 999) (wp_L (by decide +kernel) Gm (wp_S1 (post hm hmd)))))
    obtain ⟨ql, s2, b, rfl, an, bd, g2⟩ := q
    obtain ⟨et, el⟩ := hk b _ an
    have G2 := GS_G g2
    show mx_wp 1000 346 975 [some (.ref 1), some (.ref 100), some (.ref 381), some (.ref 391), some (.int (nI i)), some (.int kk), w6] [.int b] h2 Qf
    refine wp_steps (i' := 977) (ls' := [some (.ref 1), some (.ref 100), some (.ref 381), some (.ref 391), some (.int (nI i)), some (.int kk), some (.int b)]) (st' := [.ref 381]) (h' := h2) (P := True) 2 rfl rfl trivial ?_
    refine wp_call (b := false) (y' := 190) (as := [.ref 381]) (rest := []) (P := ((mxT 381).1 = mxRc 190 ∧ mxG h2)) rfl (by with_unfolding_all rfl) ⟨congrArg Prod.fst sT_381, G2⟩ (Nat.le_of_ble_eq_true rfl) (tr_190_0 G2 ?_)
    show mx_wp 1000 346 978 [some (.ref 1), some (.ref 100), some (.ref 381), some (.ref 391), some (.int (nI i)), some (.int kk), some (.int b)] [.int (mx_i h2 381 0)] h2 Qf
    rw [et]
    refine wp_steps (i' := 979) (ls' := [some (.ref 1), some (.ref 100), some (.ref 381), some (.ref 391), some (.int (nI i)), some (.int kk), some (.int b)]) (st' := [.int kk, .int kk]) (h' := h2) (P := True) 1 rfl rfl trivial ?_
    refine wp_br (P := True) (c := kk = kk) (t := 982) (st' := []) rfl rfl trivial (fun _ => ?_) (fun c => absurd rfl c)
    refine wp_steps (i' := 983) (ls' := [some (.ref 1), some (.ref 100), some (.ref 381), some (.ref 391), some (.int (nI i)), some (.int kk), some (.int b)]) (st' := [.int kk]) (h' := h2) (P := True) 1 rfl rfl trivial ?_
    refine wp_br (P := True) (c := ¬ kk = 0) (t := 993) (st' := []) rfl rfl trivial (fun _ => ?_) (fun c => ?_)
    · refine wp_J (j := 1565) (st' := []) rfl rfl ?_
      exact K h2 _ _ g2 bd (sc1_tr s1 (sc1_tr (sc1_mdl hmd) s2))
    · have c0 := el (Decidable.of_not_not c)
      rw [← ql] at c0
      refine wp_steps (i' := 990) (ls' := [some (.ref 1), some (.ref 100), some (.ref 381), some (.ref 391), some (.int (nI i)), some (.int kk), some (.int b)]) (st' := [.int (lg_cmp (mx_l h2 391 0) b.toInt64)]) (h' := h2) (P := (((mxT 391).1 = 52 ∧ mxG h2) ∧ vp_in 0 (mxT 391).2) ∧ True) 6 rfl rfl ⟨cA sT_391 G2 (vpl rfl), trivial⟩ ?_
      refine wp_br (P := True) (c := lg_cmp (mx_l h2 391 0) b.toInt64 = 0) (t := 993) (st' := []) rfl rfl trivial (fun _ => ?_) (fun c => absurd c0 c)
      refine wp_J (j := 1565) (st' := []) rfl rfl ?_
      exact K h2 _ _ g2 bd (sc1_tr s1 (sc1_tr (sc1_mdl hmd) s2))
  refine wp_steps (i' := 966) (ls' := [some (.ref 1), some (.ref 100), some (.ref 381), some (.ref 391), some (.int (nI i)), w5, w6]) (st' := [.ref 391, .int (mx_i h 1 (nI i + 1).toNatClampNeg), .ref 100]) (h' := h) (P := (1 = 1 ∧ vp_in (nI i + 1) (mx_r h 1 0)) ∧ True) 7 rfl rfl ⟨⟨rfl, vpi hL hi hL2 (j := 1) (by decide)⟩, trivial⟩ ?_
  refine wp_call (b := false) (y' := 335) (as := [.ref 100, .int (mx_i h 1 (nI i + 1).toNatClampNeg), .ref 391]) (rest := []) (P := True) rfl (by with_unfolding_all rfl) trivial (Nat.le_of_ble_eq_true rfl) (wr_335 G (mx_wp.mono (fun o h1 q => ?_) (wp_dm (by decide : 500 ≤ 998) (wp_S1 (wp_G (by decide +kernel) G (O (mx_i h 1 (nI i + 1).toNatClampNeg) h vn vd vr vq np ns nl I))))))
  obtain ⟨s1, G1, post⟩ := q
  obtain ⟨n0, o20, h20, e0, b0, eb0, an0, r0⟩ := post h1 mdl_rfl
  refine ⟨G1, ?_⟩
  rcases ans_cases an0 with ⟨v, rfl, -, -⟩ | ⟨kx, rfl, -, q⟩
  · show mx_wp 1000 346 967 [some (.ref 1), some (.ref 100), some (.ref 381), some (.ref 391), some (.int (nI i)), w5, w6] [.int 0] (mx_wl h1 391 0 v.toInt64) Qf
    refine step _ h1 _ 0 G1 s1 post mdl_wl (fun b t a => ⟨a.1, fun _ => ?_⟩)
    have hvb : v = b := a.2
    rw [wl_at, hvb]; exact lgc _
  · refine ⟨code kx, hcs kx q, ?_⟩
    show mx_wp 1000 346 967 [some (.ref 1), some (.ref 100), some (.ref 381), some (.ref 391), some (.int (nI i)), w5, w6] [.int (code kx)] h1 Qf
    exact step _ h1 _ _ G1 s1 post mdl_rfl (fun b t a => ⟨a.1, fun e => absurd e q⟩)
set_option maxRecDepth 8000 in
theorem cs_26 {LW : mxLW} {h : mxH} {i L : Nat} {w5 w6 : Option Value} {Qf : mxO → mxH → Prop} {code : Nat → Int32} (O : ∀ x0 x1 : Int32, Op LW 164 275 [.int x0, .int x1] code) (hcs : ∀ k, code k ≠ 0 → (k, code k) ∈ ([(2, 1), (0, 2)] : List (Nat × Int32))) (g : GS LW h) (hL : mx_r h 1 0 = L) (hi : i + 6 ≤ L) (hL2 : L ≤ 3072) (K : ∀ (h2 : mxH) (w5 w6 : Option Value), GS LW h2 → bud h h2 → sc1 h h2 → mx_wp 1000 346 1565 [some (.ref 1), some (.ref 100), some (.ref 381), some (.ref 391), some (.int (nI i)), w5, w6] [] h2 Qf) : mx_wp 1000 346 994 [some (.ref 1), some (.ref 100), some (.ref 381), some (.ref 391), some (.int (nI i)), w5, w6] [] h Qf := by
  have G := GS_G g
  obtain ⟨vn, vd, vr, vq, np, ns, nl, I⟩ := g
  have step : ∀ (o : mxO) (h1 hm : mxH) (kk : Int32), mxG h1 → sc1 h h1 → (∀ hm, mdl h1 hm → mx_wp 500 275 0 (mx_fr 275 [.ref 381, .int (mx_i h 1 (nI i + 1).toNatClampNeg), .int (mx_i h 1 (nI i + 2).toNatClampNeg)]) [] hm (fun o2 h2 => ∃ b, o2 = .inl (some (.int b)) ∧ ansOk code o b (mx_i h2 381 0) ∧ bud h h2 ∧ GS LW h2)) → mdl h1 hm → (∀ b t, ansOk code o b t → t = kk ∧ (kk = 0 → lg_cmp (mx_l hm 391 0) (if b = 0 then Int64.ofNat 0 else Int64.ofNat 1) = 0)) → mx_wp 1000 346 1007 [some (.ref 1), some (.ref 100), some (.ref 381), some (.ref 391), some (.int (nI i)), w5, w6] [.int kk] hm Qf := by
    intro o h1 hm kk G1 s1 post hmd hk
    have sch : mx_i hm 1 = mx_i h 1 := by rw [hmd.2.2.2.1]; exact s1.1
    have hLm : mx_r hm 1 0 = L := by rw [hmd.2.2.2.2, s1.2.1]; exact hL
    have Gm : mxG hm := agr_G (P := fun _ => False) (agr_mdl hmd) G1
    refine wp_steps (i' := 1008) (ls' := [some (.ref 1), some (.ref 100), some (.ref 381), some (.ref 391), some (.int (nI i)), some (.int kk), w6]) (st' := []) (h' := hm) (P := True) 1 rfl rfl trivial ?_
    refine wp_steps (i' := 1019) (ls' := [some (.ref 1), some (.ref 100), some (.ref 381), some (.ref 391), some (.int (nI i)), some (.int kk), w6]) (st' := [.int (mx_i hm 1 (nI i + 2).toNatClampNeg), .int (mx_i hm 1 (nI i + 1).toNatClampNeg), .ref 381]) (h' := hm) (P := (1 = 1 ∧ vp_in (nI i + 1) (mx_r hm 1 0)) ∧ (1 = 1 ∧ vp_in (nI i + 2) (mx_r hm 1 0)) ∧ True) 11 rfl rfl ⟨⟨rfl, vpi hLm hi hL2 (j := 1) (by decide)⟩, ⟨rfl, vpi hLm hi hL2 (j := 2) (by decide)⟩, trivial⟩ ?_
    rw [sch]
    refine wp_call (b := false) (y' := 275) (as := [.ref 381, .int (mx_i h 1 (nI i + 1).toNatClampNeg), .int (mx_i h 1 (nI i + 2).toNatClampNeg)]) (rest := []) (P := ((mxT 381).1 = mxRc 275 ∧ mxG hm)) rfl (by with_unfolding_all rfl) ⟨congrArg Prod.fst sT_381, Gm⟩ (Nat.le_of_ble_eq_true rfl) (mx_wp.mono (fun o2 h2 q => ?_) (wp_dm (by decide : 500 ≤ 999) (wp_L (by decide +kernel) Gm (wp_S1 (post hm hmd)))))
    obtain ⟨ql, s2, b, rfl, an, bd, g2⟩ := q
    obtain ⟨et, el⟩ := hk b _ an
    have G2 := GS_G g2
    show mx_wp 1000 346 1020 [some (.ref 1), some (.ref 100), some (.ref 381), some (.ref 391), some (.int (nI i)), some (.int kk), w6] [.int b] h2 Qf
    refine wp_steps (i' := 1022) (ls' := [some (.ref 1), some (.ref 100), some (.ref 381), some (.ref 391), some (.int (nI i)), some (.int kk), some (.int b)]) (st' := [.ref 381]) (h' := h2) (P := True) 2 rfl rfl trivial ?_
    refine wp_call (b := false) (y' := 190) (as := [.ref 381]) (rest := []) (P := ((mxT 381).1 = mxRc 190 ∧ mxG h2)) rfl (by with_unfolding_all rfl) ⟨congrArg Prod.fst sT_381, G2⟩ (Nat.le_of_ble_eq_true rfl) (tr_190_0 G2 ?_)
    show mx_wp 1000 346 1023 [some (.ref 1), some (.ref 100), some (.ref 381), some (.ref 391), some (.int (nI i)), some (.int kk), some (.int b)] [.int (mx_i h2 381 0)] h2 Qf
    rw [et]
    refine wp_steps (i' := 1024) (ls' := [some (.ref 1), some (.ref 100), some (.ref 381), some (.ref 391), some (.int (nI i)), some (.int kk), some (.int b)]) (st' := [.int kk, .int kk]) (h' := h2) (P := True) 1 rfl rfl trivial ?_
    refine wp_br (P := True) (c := kk = kk) (t := 1027) (st' := []) rfl rfl trivial (fun _ => ?_) (fun c => absurd rfl c)
    refine wp_steps (i' := 1028) (ls' := [some (.ref 1), some (.ref 100), some (.ref 381), some (.ref 391), some (.int (nI i)), some (.int kk), some (.int b)]) (st' := [.int kk]) (h' := h2) (P := True) 1 rfl rfl trivial ?_
    refine wp_br (P := True) (c := ¬ kk = 0) (t := 1041) (st' := []) rfl rfl trivial (fun _ => ?_) (fun c => ?_)
    · refine wp_J (j := 1565) (st' := []) rfl rfl ?_
      exact K h2 _ _ g2 bd (sc1_tr s1 (sc1_tr (sc1_mdl hmd) s2))
    · have c0 := el (Decidable.of_not_not c)
      rw [← ql] at c0
      refine wp_steps (i' := 1033) (ls' := [some (.ref 1), some (.ref 100), some (.ref 381), some (.ref 391), some (.int (nI i)), some (.int kk), some (.int b)]) (st' := [.int b, .long (mx_l h2 391 0)]) (h' := h2) (P := (((mxT 391).1 = 52 ∧ mxG h2) ∧ vp_in 0 (mxT 391).2) ∧ True) 4 rfl rfl ⟨cA sT_391 G2 (vpl rfl), trivial⟩ ?_
      refine wp_br (P := True) (c := b = 0) (t := 1036) (st' := [.long (mx_l h2 391 0)]) rfl rfl trivial (fun cq => ?_) (fun cq => ?_)
      · simp only [if_pos cq] at c0
        refine wp_steps (i' := 1038) (ls' := [some (.ref 1), some (.ref 100), some (.ref 381), some (.ref 391), some (.int (nI i)), some (.int kk), some (.int b)]) (st' := [.int (lg_cmp (mx_l h2 391 0) (Int64.ofNat 0))]) (h' := h2) (P := True) 2 rfl rfl trivial ?_
        refine wp_br (P := True) (c := lg_cmp (mx_l h2 391 0) (Int64.ofNat 0) = 0) (t := 1041) (st' := []) rfl rfl trivial (fun _ => ?_) (fun c => absurd c0 c)
        refine wp_J (j := 1565) (st' := []) rfl rfl ?_
        exact K h2 _ _ g2 bd (sc1_tr s1 (sc1_tr (sc1_mdl hmd) s2))
      · simp only [if_neg cq] at c0
        refine wp_steps (i' := 1035) (ls' := [some (.ref 1), some (.ref 100), some (.ref 381), some (.ref 391), some (.int (nI i)), some (.int kk), some (.int b)]) (st' := [.long (Int64.ofNat 1), .long (mx_l h2 391 0)]) (h' := h2) (P := True) 1 rfl rfl trivial ?_
        refine wp_J (j := 1037) (st' := [.long (Int64.ofNat 1), .long (mx_l h2 391 0)]) rfl rfl ?_
        refine wp_steps (i' := 1038) (ls' := [some (.ref 1), some (.ref 100), some (.ref 381), some (.ref 391), some (.int (nI i)), some (.int kk), some (.int b)]) (st' := [.int (lg_cmp (mx_l h2 391 0) (Int64.ofNat 1))]) (h' := h2) (P := True) 1 rfl rfl trivial ?_
        refine wp_br (P := True) (c := lg_cmp (mx_l h2 391 0) (Int64.ofNat 1) = 0) (t := 1041) (st' := []) rfl rfl trivial (fun _ => ?_) (fun c => absurd c0 c)
        refine wp_J (j := 1565) (st' := []) rfl rfl ?_
        exact K h2 _ _ g2 bd (sc1_tr s1 (sc1_tr (sc1_mdl hmd) s2))
  refine wp_steps (i' := 1006) (ls' := [some (.ref 1), some (.ref 100), some (.ref 381), some (.ref 391), some (.int (nI i)), w5, w6]) (st' := [.ref 391, .int (mx_i h 1 (nI i + 2).toNatClampNeg), .int (mx_i h 1 (nI i + 1).toNatClampNeg), .ref 100]) (h' := h) (P := (1 = 1 ∧ vp_in (nI i + 1) (mx_r h 1 0)) ∧ (1 = 1 ∧ vp_in (nI i + 2) (mx_r h 1 0)) ∧ True) 12 rfl rfl ⟨⟨rfl, vpi hL hi hL2 (j := 1) (by decide)⟩, ⟨rfl, vpi hL hi hL2 (j := 2) (by decide)⟩, trivial⟩ ?_
  refine wp_call (b := false) (y' := 336) (as := [.ref 100, .int (mx_i h 1 (nI i + 1).toNatClampNeg), .int (mx_i h 1 (nI i + 2).toNatClampNeg), .ref 391]) (rest := []) (P := True) rfl (by with_unfolding_all rfl) trivial (Nat.le_of_ble_eq_true rfl) (wr_336 G (mx_wp.mono (fun o h1 q => ?_) (wp_dm (by decide : 500 ≤ 998) (wp_S1 (wp_G (by decide +kernel) G (O (mx_i h 1 (nI i + 1).toNatClampNeg) (mx_i h 1 (nI i + 2).toNatClampNeg) h vn vd vr vq np ns nl I))))))
  obtain ⟨s1, G1, post⟩ := q
  obtain ⟨n0, o20, h20, e0, b0, eb0, an0, r0⟩ := post h1 mdl_rfl
  refine ⟨G1, ?_⟩
  rcases ans_cases an0 with ⟨v, rfl, -, -⟩ | ⟨kx, rfl, -, q⟩
  · show mx_wp 1000 346 1007 [some (.ref 1), some (.ref 100), some (.ref 381), some (.ref 391), some (.int (nI i)), w5, w6] [.int 0] (mx_wl h1 391 0 (if v = 0 then Int64.ofNat 0 else Int64.ofNat 1)) Qf
    refine step _ h1 _ 0 G1 s1 post mdl_wl (fun b t a => ⟨a.1, fun _ => ?_⟩)
    have hvb : v = b := a.2
    rw [wl_at, hvb]; exact lgc _
  · refine ⟨code kx, hcs kx q, ?_⟩
    show mx_wp 1000 346 1007 [some (.ref 1), some (.ref 100), some (.ref 381), some (.ref 391), some (.int (nI i)), w5, w6] [.int (code kx)] h1 Qf
    exact step _ h1 _ _ G1 s1 post mdl_rfl (fun b t a => ⟨a.1, fun e => absurd e q⟩)
set_option maxRecDepth 8000 in
theorem cs_27 {LW : mxLW} {h : mxH} {i L : Nat} {w5 w6 : Option Value} {Qf : mxO → mxH → Prop} {code : Nat → Int32} (O : ∀ x0 x1 x2 : Int32, Op LW 165 278 [.int x0, .int x1, .int x2] code) (hcs : ∀ k, code k ≠ 0 → (k, code k) ∈ ([(2, 1), (0, 2)] : List (Nat × Int32))) (g : GS LW h) (hL : mx_r h 1 0 = L) (hi : i + 6 ≤ L) (hL2 : L ≤ 3072) (K : ∀ (h2 : mxH) (w5 w6 : Option Value), GS LW h2 → bud h h2 → sc1 h h2 → mx_wp 1000 346 1565 [some (.ref 1), some (.ref 100), some (.ref 381), some (.ref 391), some (.int (nI i)), w5, w6] [] h2 Qf) : mx_wp 1000 346 1042 [some (.ref 1), some (.ref 100), some (.ref 381), some (.ref 391), some (.int (nI i)), w5, w6] [] h Qf := by
  have G := GS_G g
  obtain ⟨vn, vd, vr, vq, np, ns, nl, I⟩ := g
  have step : ∀ (o : mxO) (h1 hm : mxH) (kk : Int32), mxG h1 → sc1 h h1 → (∀ hm, mdl h1 hm → mx_wp 500 278 0 (mx_fr 278 [.ref 381, .int (mx_i h 1 (nI i + 1).toNatClampNeg), .int (mx_i h 1 (nI i + 2).toNatClampNeg), .int (mx_i h 1 (nI i + 3).toNatClampNeg)]) [] hm (fun o2 h2 => ∃ b, o2 = .inl (some (.int b)) ∧ ansOk code o b (mx_i h2 381 0) ∧ bud h h2 ∧ GS LW h2)) → mdl h1 hm → (∀ b t, ansOk code o b t → t = kk ∧ (kk = 0 → lg_cmp (mx_l hm 391 0) b.toInt64 = 0)) → mx_wp 1000 346 1060 [some (.ref 1), some (.ref 100), some (.ref 381), some (.ref 391), some (.int (nI i)), w5, w6] [.int kk] hm Qf := by
    intro o h1 hm kk G1 s1 post hmd hk
    have sch : mx_i hm 1 = mx_i h 1 := by rw [hmd.2.2.2.1]; exact s1.1
    have hLm : mx_r hm 1 0 = L := by rw [hmd.2.2.2.2, s1.2.1]; exact hL
    have Gm : mxG hm := agr_G (P := fun _ => False) (agr_mdl hmd) G1
    refine wp_steps (i' := 1061) (ls' := [some (.ref 1), some (.ref 100), some (.ref 381), some (.ref 391), some (.int (nI i)), some (.int kk), w6]) (st' := []) (h' := hm) (P := True) 1 rfl rfl trivial ?_
    refine wp_steps (i' := 1077) (ls' := [some (.ref 1), some (.ref 100), some (.ref 381), some (.ref 391), some (.int (nI i)), some (.int kk), w6]) (st' := [.int (mx_i hm 1 (nI i + 3).toNatClampNeg), .int (mx_i hm 1 (nI i + 2).toNatClampNeg), .int (mx_i hm 1 (nI i + 1).toNatClampNeg), .ref 381]) (h' := hm) (P := (1 = 1 ∧ vp_in (nI i + 1) (mx_r hm 1 0)) ∧ (1 = 1 ∧ vp_in (nI i + 2) (mx_r hm 1 0)) ∧ (1 = 1 ∧ vp_in (nI i + 3) (mx_r hm 1 0)) ∧ True) 16 rfl rfl ⟨⟨rfl, vpi hLm hi hL2 (j := 1) (by decide)⟩, ⟨rfl, vpi hLm hi hL2 (j := 2) (by decide)⟩, ⟨rfl, vpi hLm hi hL2 (j := 3) (by decide)⟩, trivial⟩ ?_
    rw [sch]
    refine wp_call (b := false) (y' := 278) (as := [.ref 381, .int (mx_i h 1 (nI i + 1).toNatClampNeg), .int (mx_i h 1 (nI i + 2).toNatClampNeg), .int (mx_i h 1 (nI i + 3).toNatClampNeg)]) (rest := []) (P := ((mxT 381).1 = mxRc 278 ∧ mxG hm)) rfl (by with_unfolding_all rfl) ⟨congrArg Prod.fst sT_381, Gm⟩ (Nat.le_of_ble_eq_true rfl) (mx_wp.mono (fun o2 h2 q => ?_) (wp_dm (by decide : 500 ≤ 999) (wp_L (by decide +kernel) Gm (wp_S1 (post hm hmd)))))
    obtain ⟨ql, s2, b, rfl, an, bd, g2⟩ := q
    obtain ⟨et, el⟩ := hk b _ an
    have G2 := GS_G g2
    show mx_wp 1000 346 1078 [some (.ref 1), some (.ref 100), some (.ref 381), some (.ref 391), some (.int (nI i)), some (.int kk), w6] [.int b] h2 Qf
    refine wp_steps (i' := 1080) (ls' := [some (.ref 1), some (.ref 100), some (.ref 381), some (.ref 391), some (.int (nI i)), some (.int kk), some (.int b)]) (st' := [.ref 381]) (h' := h2) (P := True) 2 rfl rfl trivial ?_
    refine wp_call (b := false) (y' := 190) (as := [.ref 381]) (rest := []) (P := ((mxT 381).1 = mxRc 190 ∧ mxG h2)) rfl (by with_unfolding_all rfl) ⟨congrArg Prod.fst sT_381, G2⟩ (Nat.le_of_ble_eq_true rfl) (tr_190_0 G2 ?_)
    show mx_wp 1000 346 1081 [some (.ref 1), some (.ref 100), some (.ref 381), some (.ref 391), some (.int (nI i)), some (.int kk), some (.int b)] [.int (mx_i h2 381 0)] h2 Qf
    rw [et]
    refine wp_steps (i' := 1082) (ls' := [some (.ref 1), some (.ref 100), some (.ref 381), some (.ref 391), some (.int (nI i)), some (.int kk), some (.int b)]) (st' := [.int kk, .int kk]) (h' := h2) (P := True) 1 rfl rfl trivial ?_
    refine wp_br (P := True) (c := kk = kk) (t := 1085) (st' := []) rfl rfl trivial (fun _ => ?_) (fun c => absurd rfl c)
    refine wp_steps (i' := 1086) (ls' := [some (.ref 1), some (.ref 100), some (.ref 381), some (.ref 391), some (.int (nI i)), some (.int kk), some (.int b)]) (st' := [.int kk]) (h' := h2) (P := True) 1 rfl rfl trivial ?_
    refine wp_br (P := True) (c := ¬ kk = 0) (t := 1096) (st' := []) rfl rfl trivial (fun _ => ?_) (fun c => ?_)
    · refine wp_J (j := 1565) (st' := []) rfl rfl ?_
      exact K h2 _ _ g2 bd (sc1_tr s1 (sc1_tr (sc1_mdl hmd) s2))
    · have c0 := el (Decidable.of_not_not c)
      rw [← ql] at c0
      refine wp_steps (i' := 1093) (ls' := [some (.ref 1), some (.ref 100), some (.ref 381), some (.ref 391), some (.int (nI i)), some (.int kk), some (.int b)]) (st' := [.int (lg_cmp (mx_l h2 391 0) b.toInt64)]) (h' := h2) (P := (((mxT 391).1 = 52 ∧ mxG h2) ∧ vp_in 0 (mxT 391).2) ∧ True) 6 rfl rfl ⟨cA sT_391 G2 (vpl rfl), trivial⟩ ?_
      refine wp_br (P := True) (c := lg_cmp (mx_l h2 391 0) b.toInt64 = 0) (t := 1096) (st' := []) rfl rfl trivial (fun _ => ?_) (fun c => absurd c0 c)
      refine wp_J (j := 1565) (st' := []) rfl rfl ?_
      exact K h2 _ _ g2 bd (sc1_tr s1 (sc1_tr (sc1_mdl hmd) s2))
  refine wp_steps (i' := 1059) (ls' := [some (.ref 1), some (.ref 100), some (.ref 381), some (.ref 391), some (.int (nI i)), w5, w6]) (st' := [.ref 391, .int (mx_i h 1 (nI i + 3).toNatClampNeg), .int (mx_i h 1 (nI i + 2).toNatClampNeg), .int (mx_i h 1 (nI i + 1).toNatClampNeg), .ref 100]) (h' := h) (P := (1 = 1 ∧ vp_in (nI i + 1) (mx_r h 1 0)) ∧ (1 = 1 ∧ vp_in (nI i + 2) (mx_r h 1 0)) ∧ (1 = 1 ∧ vp_in (nI i + 3) (mx_r h 1 0)) ∧ True) 17 rfl rfl ⟨⟨rfl, vpi hL hi hL2 (j := 1) (by decide)⟩, ⟨rfl, vpi hL hi hL2 (j := 2) (by decide)⟩, ⟨rfl, vpi hL hi hL2 (j := 3) (by decide)⟩, trivial⟩ ?_
  refine wp_call (b := false) (y' := 337) (as := [.ref 100, .int (mx_i h 1 (nI i + 1).toNatClampNeg), .int (mx_i h 1 (nI i + 2).toNatClampNeg), .int (mx_i h 1 (nI i + 3).toNatClampNeg), .ref 391]) (rest := []) (P := True) rfl (by with_unfolding_all rfl) trivial (Nat.le_of_ble_eq_true rfl) (wr_337 G (mx_wp.mono (fun o h1 q => ?_) (wp_dm (by decide : 500 ≤ 998) (wp_S1 (wp_G (by decide +kernel) G (O (mx_i h 1 (nI i + 1).toNatClampNeg) (mx_i h 1 (nI i + 2).toNatClampNeg) (mx_i h 1 (nI i + 3).toNatClampNeg) h vn vd vr vq np ns nl I))))))
  obtain ⟨s1, G1, post⟩ := q
  obtain ⟨n0, o20, h20, e0, b0, eb0, an0, r0⟩ := post h1 mdl_rfl
  refine ⟨G1, ?_⟩
  rcases ans_cases an0 with ⟨v, rfl, -, -⟩ | ⟨kx, rfl, -, q⟩
  · show mx_wp 1000 346 1060 [some (.ref 1), some (.ref 100), some (.ref 381), some (.ref 391), some (.int (nI i)), w5, w6] [.int 0] (mx_wl h1 391 0 v.toInt64) Qf
    refine step _ h1 _ 0 G1 s1 post mdl_wl (fun b t a => ⟨a.1, fun _ => ?_⟩)
    have hvb : v = b := a.2
    rw [wl_at, hvb]; exact lgc _
  · refine ⟨code kx, hcs kx q, ?_⟩
    show mx_wp 1000 346 1060 [some (.ref 1), some (.ref 100), some (.ref 381), some (.ref 391), some (.int (nI i)), w5, w6] [.int (code kx)] h1 Qf
    exact step _ h1 _ _ G1 s1 post mdl_rfl (fun b t a => ⟨a.1, fun e => absurd e q⟩)
set_option maxRecDepth 8000 in
theorem cs_28 {LW : mxLW} {h : mxH} {i L : Nat} {w5 w6 : Option Value} {Qf : mxO → mxH → Prop} {code : Nat → Int32} (O : ∀ x0 : Int32, Op LW 166 281 [.int x0] code) (hcs : ∀ k, code k ≠ 0 → (k, code k) ∈ ([(0, 1)] : List (Nat × Int32))) (g : GS LW h) (hL : mx_r h 1 0 = L) (hi : i + 6 ≤ L) (hL2 : L ≤ 3072) (K : ∀ (h2 : mxH) (w5 w6 : Option Value), GS LW h2 → bud h h2 → sc1 h h2 → mx_wp 1000 346 1565 [some (.ref 1), some (.ref 100), some (.ref 381), some (.ref 391), some (.int (nI i)), w5, w6] [] h2 Qf) : mx_wp 1000 346 1097 [some (.ref 1), some (.ref 100), some (.ref 381), some (.ref 391), some (.int (nI i)), w5, w6] [] h Qf := by
  have G := GS_G g
  obtain ⟨vn, vd, vr, vq, np, ns, nl, I⟩ := g
  by_cases cb : (mx_i h 1 (nI i + 1).toNatClampNeg) = 0
  · skip
    have step : ∀ (o : mxO) (h1 hm : mxH) (kk : Int32), mxG h1 → sc1 h h1 → (∀ hm, mdl h1 hm → mx_wp 500 281 0 (mx_fr 281 [.ref 381, .int 0]) [] hm (fun o2 h2 => ∃ b, o2 = .inl (some (.int b)) ∧ ansOk code o b (mx_i h2 381 0) ∧ bud h h2 ∧ GS LW h2)) → mdl h1 hm → (∀ b t, ansOk code o b t → t = kk ∧ (kk = 0 → lg_cmp (mx_l hm 391 0) b.toInt64 = 0)) → mx_wp 1000 346 1109 [some (.ref 1), some (.ref 100), some (.ref 381), some (.ref 391), some (.int (nI i)), w5, w6] [.int kk] hm Qf := by
      intro o h1 hm kk G1 s1 post hmd hk
      have sch : mx_i hm 1 = mx_i h 1 := by rw [hmd.2.2.2.1]; exact s1.1
      have hLm : mx_r hm 1 0 = L := by rw [hmd.2.2.2.2, s1.2.1]; exact hL
      have Gm : mxG hm := agr_G (P := fun _ => False) (agr_mdl hmd) G1
      refine wp_steps (i' := 1110) (ls' := [some (.ref 1), some (.ref 100), some (.ref 381), some (.ref 391), some (.int (nI i)), some (.int kk), w6]) (st' := []) (h' := hm) (P := True) 1 rfl rfl trivial ?_
      refine wp_steps (i' := 1116) (ls' := [some (.ref 1), some (.ref 100), some (.ref 381), some (.ref 391), some (.int (nI i)), some (.int kk), w6]) (st' := [.int (mx_i hm 1 (nI i + 1).toNatClampNeg), .ref 381]) (h' := hm) (P := (1 = 1 ∧ vp_in (nI i + 1) (mx_r hm 1 0)) ∧ True) 6 rfl rfl ⟨⟨rfl, vpi hLm hi hL2 (j := 1) (by decide)⟩, trivial⟩ ?_
      refine wp_br (P := True) (c := (mx_i hm 1 (nI i + 1).toNatClampNeg) = 0) (t := 1119) (st' := [.ref 381]) rfl rfl trivial (fun c => ?_) (fun c => ?_)
      rotate_left
      · exact absurd (by rw [sch]; exact cb) c
      refine wp_steps (i' := 1120) (ls' := [some (.ref 1), some (.ref 100), some (.ref 381), some (.ref 391), some (.int (nI i)), some (.int kk), w6]) (st' := [.int 0, .ref 381]) (h' := hm) (P := True) 1 rfl rfl trivial ?_
      skip
      refine wp_call (b := false) (y' := 281) (as := [.ref 381, .int 0]) (rest := []) (P := ((mxT 381).1 = mxRc 281 ∧ mxG hm)) rfl (by with_unfolding_all rfl) ⟨congrArg Prod.fst sT_381, Gm⟩ (Nat.le_of_ble_eq_true rfl) (mx_wp.mono (fun o2 h2 q => ?_) (wp_dm (by decide : 500 ≤ 999) (wp_L (by decide +kernel) Gm (wp_S1 (post hm hmd)))))
      obtain ⟨ql, s2, b, rfl, an, bd, g2⟩ := q
      obtain ⟨et, el⟩ := hk b _ an
      have G2 := GS_G g2
      show mx_wp 1000 346 1121 [some (.ref 1), some (.ref 100), some (.ref 381), some (.ref 391), some (.int (nI i)), some (.int kk), w6] [.int b] h2 Qf
      refine wp_steps (i' := 1123) (ls' := [some (.ref 1), some (.ref 100), some (.ref 381), some (.ref 391), some (.int (nI i)), some (.int kk), some (.int b)]) (st' := [.ref 381]) (h' := h2) (P := True) 2 rfl rfl trivial ?_
      refine wp_call (b := false) (y' := 190) (as := [.ref 381]) (rest := []) (P := ((mxT 381).1 = mxRc 190 ∧ mxG h2)) rfl (by with_unfolding_all rfl) ⟨congrArg Prod.fst sT_381, G2⟩ (Nat.le_of_ble_eq_true rfl) (tr_190_0 G2 ?_)
      show mx_wp 1000 346 1124 [some (.ref 1), some (.ref 100), some (.ref 381), some (.ref 391), some (.int (nI i)), some (.int kk), some (.int b)] [.int (mx_i h2 381 0)] h2 Qf
      rw [et]
      refine wp_steps (i' := 1125) (ls' := [some (.ref 1), some (.ref 100), some (.ref 381), some (.ref 391), some (.int (nI i)), some (.int kk), some (.int b)]) (st' := [.int kk, .int kk]) (h' := h2) (P := True) 1 rfl rfl trivial ?_
      refine wp_br (P := True) (c := kk = kk) (t := 1128) (st' := []) rfl rfl trivial (fun _ => ?_) (fun c => absurd rfl c)
      refine wp_steps (i' := 1129) (ls' := [some (.ref 1), some (.ref 100), some (.ref 381), some (.ref 391), some (.int (nI i)), some (.int kk), some (.int b)]) (st' := [.int kk]) (h' := h2) (P := True) 1 rfl rfl trivial ?_
      refine wp_br (P := True) (c := ¬ kk = 0) (t := 1139) (st' := []) rfl rfl trivial (fun _ => ?_) (fun c => ?_)
      · refine wp_J (j := 1565) (st' := []) rfl rfl ?_
        exact K h2 _ _ g2 bd (sc1_tr s1 (sc1_tr (sc1_mdl hmd) s2))
      · have c0 := el (Decidable.of_not_not c)
        rw [← ql] at c0
        refine wp_steps (i' := 1136) (ls' := [some (.ref 1), some (.ref 100), some (.ref 381), some (.ref 391), some (.int (nI i)), some (.int kk), some (.int b)]) (st' := [.int (lg_cmp (mx_l h2 391 0) b.toInt64)]) (h' := h2) (P := (((mxT 391).1 = 52 ∧ mxG h2) ∧ vp_in 0 (mxT 391).2) ∧ True) 6 rfl rfl ⟨cA sT_391 G2 (vpl rfl), trivial⟩ ?_
        refine wp_br (P := True) (c := lg_cmp (mx_l h2 391 0) b.toInt64 = 0) (t := 1139) (st' := []) rfl rfl trivial (fun _ => ?_) (fun c => absurd c0 c)
        refine wp_J (j := 1565) (st' := []) rfl rfl ?_
        exact K h2 _ _ g2 bd (sc1_tr s1 (sc1_tr (sc1_mdl hmd) s2))
    refine wp_steps (i' := 1103) (ls' := [some (.ref 1), some (.ref 100), some (.ref 381), some (.ref 391), some (.int (nI i)), w5, w6]) (st' := [.int (mx_i h 1 (nI i + 1).toNatClampNeg), .ref 100]) (h' := h) (P := (1 = 1 ∧ vp_in (nI i + 1) (mx_r h 1 0)) ∧ True) 6 rfl rfl ⟨⟨rfl, vpi hL hi hL2 (j := 1) (by decide)⟩, trivial⟩ ?_
    refine wp_br (P := True) (c := (mx_i h 1 (nI i + 1).toNatClampNeg) = 0) (t := 1106) (st' := [.ref 100]) rfl rfl trivial (fun c => ?_) (fun c => ?_)
    rotate_left
    · exact absurd cb c
    refine wp_steps (i' := 1107) (ls' := [some (.ref 1), some (.ref 100), some (.ref 381), some (.ref 391), some (.int (nI i)), w5, w6]) (st' := [.int 0, .ref 100]) (h' := h) (P := True) 1 rfl rfl trivial ?_
    refine wp_steps (i' := 1108) (ls' := [some (.ref 1), some (.ref 100), some (.ref 381), some (.ref 391), some (.int (nI i)), w5, w6]) (st' := [.ref 391, .int 0, .ref 100]) (h' := h) (P := True) 1 rfl rfl trivial ?_
    refine wp_call (b := false) (y' := 338) (as := [.ref 100, .int 0, .ref 391]) (rest := []) (P := True) rfl (by with_unfolding_all rfl) trivial (Nat.le_of_ble_eq_true rfl) (wr_338 G (mx_wp.mono (fun o h1 q => ?_) (wp_dm (by decide : 500 ≤ 998) (wp_S1 (wp_G (by decide +kernel) G (O 0 h vn vd vr vq np ns nl I))))))
    obtain ⟨s1, G1, post⟩ := q
    obtain ⟨n0, o20, h20, e0, b0, eb0, an0, r0⟩ := post h1 mdl_rfl
    refine ⟨G1, ?_⟩
    rcases ans_cases an0 with ⟨v, rfl, -, -⟩ | ⟨kx, rfl, -, q⟩
    · show mx_wp 1000 346 1109 [some (.ref 1), some (.ref 100), some (.ref 381), some (.ref 391), some (.int (nI i)), w5, w6] [.int 0] (mx_wl h1 391 0 v.toInt64) Qf
      refine step _ h1 _ 0 G1 s1 post mdl_wl (fun b t a => ⟨a.1, fun _ => ?_⟩)
      have hvb : v = b := a.2
      rw [wl_at, hvb]; exact lgc _
    · refine ⟨code kx, hcs kx q, ?_⟩
      show mx_wp 1000 346 1109 [some (.ref 1), some (.ref 100), some (.ref 381), some (.ref 391), some (.int (nI i)), w5, w6] [.int (code kx)] h1 Qf
      exact step _ h1 _ _ G1 s1 post mdl_rfl (fun b t a => ⟨a.1, fun e => absurd e q⟩)
  · skip
    have step : ∀ (o : mxO) (h1 hm : mxH) (kk : Int32), mxG h1 → sc1 h h1 → (∀ hm, mdl h1 hm → mx_wp 500 281 0 (mx_fr 281 [.ref 381, .int 1]) [] hm (fun o2 h2 => ∃ b, o2 = .inl (some (.int b)) ∧ ansOk code o b (mx_i h2 381 0) ∧ bud h h2 ∧ GS LW h2)) → mdl h1 hm → (∀ b t, ansOk code o b t → t = kk ∧ (kk = 0 → lg_cmp (mx_l hm 391 0) b.toInt64 = 0)) → mx_wp 1000 346 1109 [some (.ref 1), some (.ref 100), some (.ref 381), some (.ref 391), some (.int (nI i)), w5, w6] [.int kk] hm Qf := by
      intro o h1 hm kk G1 s1 post hmd hk
      have sch : mx_i hm 1 = mx_i h 1 := by rw [hmd.2.2.2.1]; exact s1.1
      have hLm : mx_r hm 1 0 = L := by rw [hmd.2.2.2.2, s1.2.1]; exact hL
      have Gm : mxG hm := agr_G (P := fun _ => False) (agr_mdl hmd) G1
      refine wp_steps (i' := 1110) (ls' := [some (.ref 1), some (.ref 100), some (.ref 381), some (.ref 391), some (.int (nI i)), some (.int kk), w6]) (st' := []) (h' := hm) (P := True) 1 rfl rfl trivial ?_
      refine wp_steps (i' := 1116) (ls' := [some (.ref 1), some (.ref 100), some (.ref 381), some (.ref 391), some (.int (nI i)), some (.int kk), w6]) (st' := [.int (mx_i hm 1 (nI i + 1).toNatClampNeg), .ref 381]) (h' := hm) (P := (1 = 1 ∧ vp_in (nI i + 1) (mx_r hm 1 0)) ∧ True) 6 rfl rfl ⟨⟨rfl, vpi hLm hi hL2 (j := 1) (by decide)⟩, trivial⟩ ?_
      refine wp_br (P := True) (c := (mx_i hm 1 (nI i + 1).toNatClampNeg) = 0) (t := 1119) (st' := [.ref 381]) rfl rfl trivial (fun c => ?_) (fun c => ?_)
      · exact absurd c (by rw [sch]; exact cb)
      refine wp_steps (i' := 1118) (ls' := [some (.ref 1), some (.ref 100), some (.ref 381), some (.ref 391), some (.int (nI i)), some (.int kk), w6]) (st' := [.int 1, .ref 381]) (h' := hm) (P := True) 1 rfl rfl trivial ?_
      refine wp_J (j := 1120) (st' := [.int 1, .ref 381]) rfl rfl ?_
      skip
      refine wp_call (b := false) (y' := 281) (as := [.ref 381, .int 1]) (rest := []) (P := ((mxT 381).1 = mxRc 281 ∧ mxG hm)) rfl (by with_unfolding_all rfl) ⟨congrArg Prod.fst sT_381, Gm⟩ (Nat.le_of_ble_eq_true rfl) (mx_wp.mono (fun o2 h2 q => ?_) (wp_dm (by decide : 500 ≤ 999) (wp_L (by decide +kernel) Gm (wp_S1 (post hm hmd)))))
      obtain ⟨ql, s2, b, rfl, an, bd, g2⟩ := q
      obtain ⟨et, el⟩ := hk b _ an
      have G2 := GS_G g2
      show mx_wp 1000 346 1121 [some (.ref 1), some (.ref 100), some (.ref 381), some (.ref 391), some (.int (nI i)), some (.int kk), w6] [.int b] h2 Qf
      refine wp_steps (i' := 1123) (ls' := [some (.ref 1), some (.ref 100), some (.ref 381), some (.ref 391), some (.int (nI i)), some (.int kk), some (.int b)]) (st' := [.ref 381]) (h' := h2) (P := True) 2 rfl rfl trivial ?_
      refine wp_call (b := false) (y' := 190) (as := [.ref 381]) (rest := []) (P := ((mxT 381).1 = mxRc 190 ∧ mxG h2)) rfl (by with_unfolding_all rfl) ⟨congrArg Prod.fst sT_381, G2⟩ (Nat.le_of_ble_eq_true rfl) (tr_190_0 G2 ?_)
      show mx_wp 1000 346 1124 [some (.ref 1), some (.ref 100), some (.ref 381), some (.ref 391), some (.int (nI i)), some (.int kk), some (.int b)] [.int (mx_i h2 381 0)] h2 Qf
      rw [et]
      refine wp_steps (i' := 1125) (ls' := [some (.ref 1), some (.ref 100), some (.ref 381), some (.ref 391), some (.int (nI i)), some (.int kk), some (.int b)]) (st' := [.int kk, .int kk]) (h' := h2) (P := True) 1 rfl rfl trivial ?_
      refine wp_br (P := True) (c := kk = kk) (t := 1128) (st' := []) rfl rfl trivial (fun _ => ?_) (fun c => absurd rfl c)
      refine wp_steps (i' := 1129) (ls' := [some (.ref 1), some (.ref 100), some (.ref 381), some (.ref 391), some (.int (nI i)), some (.int kk), some (.int b)]) (st' := [.int kk]) (h' := h2) (P := True) 1 rfl rfl trivial ?_
      refine wp_br (P := True) (c := ¬ kk = 0) (t := 1139) (st' := []) rfl rfl trivial (fun _ => ?_) (fun c => ?_)
      · refine wp_J (j := 1565) (st' := []) rfl rfl ?_
        exact K h2 _ _ g2 bd (sc1_tr s1 (sc1_tr (sc1_mdl hmd) s2))
      · have c0 := el (Decidable.of_not_not c)
        rw [← ql] at c0
        refine wp_steps (i' := 1136) (ls' := [some (.ref 1), some (.ref 100), some (.ref 381), some (.ref 391), some (.int (nI i)), some (.int kk), some (.int b)]) (st' := [.int (lg_cmp (mx_l h2 391 0) b.toInt64)]) (h' := h2) (P := (((mxT 391).1 = 52 ∧ mxG h2) ∧ vp_in 0 (mxT 391).2) ∧ True) 6 rfl rfl ⟨cA sT_391 G2 (vpl rfl), trivial⟩ ?_
        refine wp_br (P := True) (c := lg_cmp (mx_l h2 391 0) b.toInt64 = 0) (t := 1139) (st' := []) rfl rfl trivial (fun _ => ?_) (fun c => absurd c0 c)
        refine wp_J (j := 1565) (st' := []) rfl rfl ?_
        exact K h2 _ _ g2 bd (sc1_tr s1 (sc1_tr (sc1_mdl hmd) s2))
    refine wp_steps (i' := 1103) (ls' := [some (.ref 1), some (.ref 100), some (.ref 381), some (.ref 391), some (.int (nI i)), w5, w6]) (st' := [.int (mx_i h 1 (nI i + 1).toNatClampNeg), .ref 100]) (h' := h) (P := (1 = 1 ∧ vp_in (nI i + 1) (mx_r h 1 0)) ∧ True) 6 rfl rfl ⟨⟨rfl, vpi hL hi hL2 (j := 1) (by decide)⟩, trivial⟩ ?_
    refine wp_br (P := True) (c := (mx_i h 1 (nI i + 1).toNatClampNeg) = 0) (t := 1106) (st' := [.ref 100]) rfl rfl trivial (fun c => ?_) (fun c => ?_)
    · exact absurd c cb
    refine wp_steps (i' := 1105) (ls' := [some (.ref 1), some (.ref 100), some (.ref 381), some (.ref 391), some (.int (nI i)), w5, w6]) (st' := [.int 1, .ref 100]) (h' := h) (P := True) 1 rfl rfl trivial ?_
    refine wp_J (j := 1107) (st' := [.int 1, .ref 100]) rfl rfl ?_
    refine wp_steps (i' := 1108) (ls' := [some (.ref 1), some (.ref 100), some (.ref 381), some (.ref 391), some (.int (nI i)), w5, w6]) (st' := [.ref 391, .int 1, .ref 100]) (h' := h) (P := True) 1 rfl rfl trivial ?_
    refine wp_call (b := false) (y' := 338) (as := [.ref 100, .int 1, .ref 391]) (rest := []) (P := True) rfl (by with_unfolding_all rfl) trivial (Nat.le_of_ble_eq_true rfl) (wr_338 G (mx_wp.mono (fun o h1 q => ?_) (wp_dm (by decide : 500 ≤ 998) (wp_S1 (wp_G (by decide +kernel) G (O 1 h vn vd vr vq np ns nl I))))))
    obtain ⟨s1, G1, post⟩ := q
    obtain ⟨n0, o20, h20, e0, b0, eb0, an0, r0⟩ := post h1 mdl_rfl
    refine ⟨G1, ?_⟩
    rcases ans_cases an0 with ⟨v, rfl, -, -⟩ | ⟨kx, rfl, -, q⟩
    · show mx_wp 1000 346 1109 [some (.ref 1), some (.ref 100), some (.ref 381), some (.ref 391), some (.int (nI i)), w5, w6] [.int 0] (mx_wl h1 391 0 v.toInt64) Qf
      refine step _ h1 _ 0 G1 s1 post mdl_wl (fun b t a => ⟨a.1, fun _ => ?_⟩)
      have hvb : v = b := a.2
      rw [wl_at, hvb]; exact lgc _
    · refine ⟨code kx, hcs kx q, ?_⟩
      show mx_wp 1000 346 1109 [some (.ref 1), some (.ref 100), some (.ref 381), some (.ref 391), some (.int (nI i)), w5, w6] [.int (code kx)] h1 Qf
      exact step _ h1 _ _ G1 s1 post mdl_rfl (fun b t a => ⟨a.1, fun e => absurd e q⟩)
set_option maxRecDepth 8000 in
theorem cs_29 {LW : mxLW} {h : mxH} {i L : Nat} {w5 w6 : Option Value} {Qf : mxO → mxH → Prop} {code : Nat → Int32} (O : Op LW 167 282 [] code) (hcs : ∀ k, code k ≠ 0 → (k, code k) ∈ ([(0, 1)] : List (Nat × Int32))) (g : GS LW h) (hL : mx_r h 1 0 = L) (hi : i + 6 ≤ L) (hL2 : L ≤ 3072) (K : ∀ (h2 : mxH) (w5 w6 : Option Value), GS LW h2 → bud h h2 → sc1 h h2 → mx_wp 1000 346 1565 [some (.ref 1), some (.ref 100), some (.ref 381), some (.ref 391), some (.int (nI i)), w5, w6] [] h2 Qf) : mx_wp 1000 346 1140 [some (.ref 1), some (.ref 100), some (.ref 381), some (.ref 391), some (.int (nI i)), w5, w6] [] h Qf := by
  have G := GS_G g
  obtain ⟨vn, vd, vr, vq, np, ns, nl, I⟩ := g
  have step : ∀ (o : mxO) (h1 hm : mxH) (kk : Int32), mxG h1 → sc1 h h1 → (∀ hm, mdl h1 hm → mx_wp 500 282 0 (mx_fr 282 [.ref 381]) [] hm (fun o2 h2 => ∃ b, o2 = .inl (some (.int b)) ∧ ansOk code o b (mx_i h2 381 0) ∧ bud h h2 ∧ GS LW h2)) → mdl h1 hm → (∀ b t, ansOk code o b t → t = kk ∧ (kk = 0 → lg_cmp (mx_l hm 391 0) b.toInt64 = 0)) → mx_wp 1000 346 1143 [some (.ref 1), some (.ref 100), some (.ref 381), some (.ref 391), some (.int (nI i)), w5, w6] [.int kk] hm Qf := by
    intro o h1 hm kk G1 s1 post hmd hk
    have sch : mx_i hm 1 = mx_i h 1 := by rw [hmd.2.2.2.1]; exact s1.1
    have hLm : mx_r hm 1 0 = L := by rw [hmd.2.2.2.2, s1.2.1]; exact hL
    have Gm : mxG hm := agr_G (P := fun _ => False) (agr_mdl hmd) G1
    refine wp_steps (i' := 1144) (ls' := [some (.ref 1), some (.ref 100), some (.ref 381), some (.ref 391), some (.int (nI i)), some (.int kk), w6]) (st' := []) (h' := hm) (P := True) 1 rfl rfl trivial ?_
    refine wp_steps (i' := 1145) (ls' := [some (.ref 1), some (.ref 100), some (.ref 381), some (.ref 391), some (.int (nI i)), some (.int kk), w6]) (st' := [.ref 381]) (h' := hm) (P := True) 1 rfl rfl trivial ?_
    skip
    refine wp_call (b := false) (y' := 282) (as := [.ref 381]) (rest := []) (P := ((mxT 381).1 = mxRc 282 ∧ mxG hm)) rfl (by with_unfolding_all rfl) ⟨congrArg Prod.fst sT_381, Gm⟩ (Nat.le_of_ble_eq_true rfl) (mx_wp.mono (fun o2 h2 q => ?_) (wp_dm (by decide : 500 ≤ 999) (wp_L (by decide +kernel) Gm (wp_S1 (post hm hmd)))))
    obtain ⟨ql, s2, b, rfl, an, bd, g2⟩ := q
    obtain ⟨et, el⟩ := hk b _ an
    have G2 := GS_G g2
    show mx_wp 1000 346 1146 [some (.ref 1), some (.ref 100), some (.ref 381), some (.ref 391), some (.int (nI i)), some (.int kk), w6] [.int b] h2 Qf
    refine wp_steps (i' := 1148) (ls' := [some (.ref 1), some (.ref 100), some (.ref 381), some (.ref 391), some (.int (nI i)), some (.int kk), some (.int b)]) (st' := [.ref 381]) (h' := h2) (P := True) 2 rfl rfl trivial ?_
    refine wp_call (b := false) (y' := 190) (as := [.ref 381]) (rest := []) (P := ((mxT 381).1 = mxRc 190 ∧ mxG h2)) rfl (by with_unfolding_all rfl) ⟨congrArg Prod.fst sT_381, G2⟩ (Nat.le_of_ble_eq_true rfl) (tr_190_0 G2 ?_)
    show mx_wp 1000 346 1149 [some (.ref 1), some (.ref 100), some (.ref 381), some (.ref 391), some (.int (nI i)), some (.int kk), some (.int b)] [.int (mx_i h2 381 0)] h2 Qf
    rw [et]
    refine wp_steps (i' := 1150) (ls' := [some (.ref 1), some (.ref 100), some (.ref 381), some (.ref 391), some (.int (nI i)), some (.int kk), some (.int b)]) (st' := [.int kk, .int kk]) (h' := h2) (P := True) 1 rfl rfl trivial ?_
    refine wp_br (P := True) (c := kk = kk) (t := 1153) (st' := []) rfl rfl trivial (fun _ => ?_) (fun c => absurd rfl c)
    refine wp_steps (i' := 1154) (ls' := [some (.ref 1), some (.ref 100), some (.ref 381), some (.ref 391), some (.int (nI i)), some (.int kk), some (.int b)]) (st' := [.int kk]) (h' := h2) (P := True) 1 rfl rfl trivial ?_
    refine wp_br (P := True) (c := ¬ kk = 0) (t := 1164) (st' := []) rfl rfl trivial (fun _ => ?_) (fun c => ?_)
    · refine wp_J (j := 1565) (st' := []) rfl rfl ?_
      exact K h2 _ _ g2 bd (sc1_tr s1 (sc1_tr (sc1_mdl hmd) s2))
    · have c0 := el (Decidable.of_not_not c)
      rw [← ql] at c0
      refine wp_steps (i' := 1161) (ls' := [some (.ref 1), some (.ref 100), some (.ref 381), some (.ref 391), some (.int (nI i)), some (.int kk), some (.int b)]) (st' := [.int (lg_cmp (mx_l h2 391 0) b.toInt64)]) (h' := h2) (P := (((mxT 391).1 = 52 ∧ mxG h2) ∧ vp_in 0 (mxT 391).2) ∧ True) 6 rfl rfl ⟨cA sT_391 G2 (vpl rfl), trivial⟩ ?_
      refine wp_br (P := True) (c := lg_cmp (mx_l h2 391 0) b.toInt64 = 0) (t := 1164) (st' := []) rfl rfl trivial (fun _ => ?_) (fun c => absurd c0 c)
      refine wp_J (j := 1565) (st' := []) rfl rfl ?_
      exact K h2 _ _ g2 bd (sc1_tr s1 (sc1_tr (sc1_mdl hmd) s2))
  refine wp_steps (i' := 1142) (ls' := [some (.ref 1), some (.ref 100), some (.ref 381), some (.ref 391), some (.int (nI i)), w5, w6]) (st' := [.ref 391, .ref 100]) (h' := h) (P := True) 2 rfl rfl trivial ?_
  refine wp_call (b := false) (y' := 339) (as := [.ref 100, .ref 391]) (rest := []) (P := True) rfl (by with_unfolding_all rfl) trivial (Nat.le_of_ble_eq_true rfl) (wr_339 G (mx_wp.mono (fun o h1 q => ?_) (wp_dm (by decide : 500 ≤ 998) (wp_S1 (wp_G (by decide +kernel) G (O  h vn vd vr vq np ns nl I))))))
  obtain ⟨s1, G1, post⟩ := q
  obtain ⟨n0, o20, h20, e0, b0, eb0, an0, r0⟩ := post h1 mdl_rfl
  refine ⟨G1, ?_⟩
  rcases ans_cases an0 with ⟨v, rfl, -, -⟩ | ⟨kx, rfl, -, q⟩
  · show mx_wp 1000 346 1143 [some (.ref 1), some (.ref 100), some (.ref 381), some (.ref 391), some (.int (nI i)), w5, w6] [.int 0] (mx_wl h1 391 0 v.toInt64) Qf
    refine step _ h1 _ 0 G1 s1 post mdl_wl (fun b t a => ⟨a.1, fun _ => ?_⟩)
    have hvb : v = b := a.2
    rw [wl_at, hvb]; exact lgc _
  · refine ⟨code kx, hcs kx q, ?_⟩
    show mx_wp 1000 346 1143 [some (.ref 1), some (.ref 100), some (.ref 381), some (.ref 391), some (.int (nI i)), w5, w6] [.int (code kx)] h1 Qf
    exact step _ h1 _ _ G1 s1 post mdl_rfl (fun b t a => ⟨a.1, fun e => absurd e q⟩)
set_option maxRecDepth 8000 in
theorem cs_30 {LW : mxLW} {h : mxH} {i L : Nat} {w5 w6 : Option Value} {Qf : mxO → mxH → Prop} {code : Nat → Int32} (O : Op LW 159 284 [] code) (hcode : ∀ k, code k = 0) (g : GS LW h) (hL : mx_r h 1 0 = L) (hi : i + 6 ≤ L) (hL2 : L ≤ 3072) (K : ∀ (h2 : mxH) (w5 w6 : Option Value), GS LW h2 → bud h h2 → sc1 h h2 → mx_wp 1000 346 1565 [some (.ref 1), some (.ref 100), some (.ref 381), some (.ref 391), some (.int (nI i)), w5, w6] [] h2 Qf) : mx_wp 1000 346 1165 [some (.ref 1), some (.ref 100), some (.ref 381), some (.ref 391), some (.int (nI i)), w5, w6] [] h Qf := by
  have G := GS_G g
  obtain ⟨vn, vd, vr, vq, np, ns, nl, I⟩ := g
  refine wp_steps (i' := 1166) (ls' := [some (.ref 1), some (.ref 100), some (.ref 381), some (.ref 391), some (.int (nI i)), w5, w6]) (st' := [.ref 100]) (h' := h) (P := True) 1 rfl rfl trivial ?_
  refine wp_call (b := false) (y' := 159) (as := [.ref 100]) (rest := []) (P := ((mxT 100).1 = mxRc 159 ∧ mxG h)) rfl (by with_unfolding_all rfl) ⟨congrArg Prod.fst sT_100, G⟩ (Nat.le_of_ble_eq_true rfl) (mx_wp.mono (fun o h1 q => ?_) (wp_dm (by decide : 500 ≤ 999) (wp_S1 (wp_G (by decide +kernel) G (O  h vn vd vr vq np ns nl I)))))
  obtain ⟨s1, G1, post⟩ := q
  obtain ⟨n0, o20, h20, e0, b0, eb0, an0, r0⟩ := post h1 mdl_rfl
  rcases ans_cases an0 with ⟨v, rfl, -, -⟩ | ⟨kx, -, -, q⟩
  rotate_left
  · exact absurd (hcode kx) q
  show mx_wp 1000 346 1167 [some (.ref 1), some (.ref 100), some (.ref 381), some (.ref 391), some (.int (nI i)), w5, w6] [.int v] h1 Qf
  have hL1 : mx_r h1 1 0 = L := by rw [s1.2.1]; exact hL
  have sch : mx_i h1 1 = mx_i h 1 := s1.1
  refine wp_steps (i' := 1168) (ls' := [some (.ref 1), some (.ref 100), some (.ref 381), some (.ref 391), some (.int (nI i)), w5, w6]) (st' := [.ref 381, .int v]) (h' := h1) (P := True) 1 rfl rfl trivial ?_
  skip
  refine wp_call (b := false) (y' := 284) (as := [.ref 381]) (rest := [.int v]) (P := ((mxT 381).1 = mxRc 284 ∧ mxG h1)) rfl (by with_unfolding_all rfl) ⟨congrArg Prod.fst sT_381, G1⟩ (Nat.le_of_ble_eq_true rfl) (mx_wp.mono (fun o h2 q => ?_) (wp_dm (by decide : 500 ≤ 999) (wp_S1 (post h1 mdl_rfl))))
  obtain ⟨s2, b, rfl, an, bd, g2⟩ := q
  have evb : v = b := an.2
  show mx_wp 1000 346 1169 [some (.ref 1), some (.ref 100), some (.ref 381), some (.ref 391), some (.int (nI i)), w5, w6] [.int b, .int v] h2 Qf
  refine wp_br (P := True) (c := v = b) (t := 1565) (st' := []) rfl rfl trivial (fun _ => ?_) (fun c => absurd evb c)
  exact K h2 _ _ g2 bd (sc1_tr s1 s2)
set_option maxRecDepth 8000 in
theorem cs_31 {LW : mxLW} {h : mxH} {i L : Nat} {w5 w6 : Option Value} {Qf : mxO → mxH → Prop} {code : Nat → Int32} (O : ∀ x0 : Int32, Op LW 170 285 [.int x0] code) (hcode : ∀ k, code k = 0) (g : GS LW h) (hL : mx_r h 1 0 = L) (hi : i + 6 ≤ L) (hL2 : L ≤ 3072) (K : ∀ (h2 : mxH) (w5 w6 : Option Value), GS LW h2 → bud h h2 → sc1 h h2 → mx_wp 1000 346 1565 [some (.ref 1), some (.ref 100), some (.ref 381), some (.ref 391), some (.int (nI i)), w5, w6] [] h2 Qf) : mx_wp 1000 346 1172 [some (.ref 1), some (.ref 100), some (.ref 381), some (.ref 391), some (.int (nI i)), w5, w6] [] h Qf := by
  have G := GS_G g
  obtain ⟨vn, vd, vr, vq, np, ns, nl, I⟩ := g
  by_cases cb : (mx_i h 1 (nI i + 1).toNatClampNeg) = 0
  · skip
    refine wp_steps (i' := 1178) (ls' := [some (.ref 1), some (.ref 100), some (.ref 381), some (.ref 391), some (.int (nI i)), w5, w6]) (st' := [.int (mx_i h 1 (nI i + 1).toNatClampNeg), .ref 100]) (h' := h) (P := (1 = 1 ∧ vp_in (nI i + 1) (mx_r h 1 0)) ∧ True) 6 rfl rfl ⟨⟨rfl, vpi hL hi hL2 (j := 1) (by decide)⟩, trivial⟩ ?_
    refine wp_br (P := True) (c := (mx_i h 1 (nI i + 1).toNatClampNeg) = 0) (t := 1181) (st' := [.ref 100]) rfl rfl trivial (fun c => ?_) (fun c => ?_)
    rotate_left
    · exact absurd cb c
    refine wp_steps (i' := 1182) (ls' := [some (.ref 1), some (.ref 100), some (.ref 381), some (.ref 391), some (.int (nI i)), w5, w6]) (st' := [.int 0, .ref 100]) (h' := h) (P := True) 1 rfl rfl trivial ?_
    refine wp_call (b := false) (y' := 170) (as := [.ref 100, .int 0]) (rest := []) (P := ((mxT 100).1 = mxRc 170 ∧ mxG h)) rfl (by with_unfolding_all rfl) ⟨congrArg Prod.fst sT_100, G⟩ (Nat.le_of_ble_eq_true rfl) (mx_wp.mono (fun o h1 q => ?_) (wp_dm (by decide : 500 ≤ 999) (wp_S1 (wp_G (by decide +kernel) G (O 0 h vn vd vr vq np ns nl I)))))
    obtain ⟨s1, G1, post⟩ := q
    obtain ⟨n0, o20, h20, e0, b0, eb0, an0, r0⟩ := post h1 mdl_rfl
    rcases ans_cases an0 with ⟨v, rfl, -, -⟩ | ⟨kx, -, -, q⟩
    rotate_left
    · exact absurd (hcode kx) q
    show mx_wp 1000 346 1183 [some (.ref 1), some (.ref 100), some (.ref 381), some (.ref 391), some (.int (nI i)), w5, w6] [.int v] h1 Qf
    have hL1 : mx_r h1 1 0 = L := by rw [s1.2.1]; exact hL
    have sch : mx_i h1 1 = mx_i h 1 := s1.1
    refine wp_steps (i' := 1189) (ls' := [some (.ref 1), some (.ref 100), some (.ref 381), some (.ref 391), some (.int (nI i)), w5, w6]) (st' := [.int (mx_i h1 1 (nI i + 1).toNatClampNeg), .ref 381, .int v]) (h' := h1) (P := (1 = 1 ∧ vp_in (nI i + 1) (mx_r h1 1 0)) ∧ True) 6 rfl rfl ⟨⟨rfl, vpi hL1 hi hL2 (j := 1) (by decide)⟩, trivial⟩ ?_
    refine wp_br (P := True) (c := (mx_i h1 1 (nI i + 1).toNatClampNeg) = 0) (t := 1192) (st' := [.ref 381, .int v]) rfl rfl trivial (fun c => ?_) (fun c => ?_)
    rotate_left
    · exact absurd (by rw [sch]; exact cb) c
    refine wp_steps (i' := 1193) (ls' := [some (.ref 1), some (.ref 100), some (.ref 381), some (.ref 391), some (.int (nI i)), w5, w6]) (st' := [.int 0, .ref 381, .int v]) (h' := h1) (P := True) 1 rfl rfl trivial ?_
    skip
    refine wp_call (b := false) (y' := 285) (as := [.ref 381, .int 0]) (rest := [.int v]) (P := ((mxT 381).1 = mxRc 285 ∧ mxG h1)) rfl (by with_unfolding_all rfl) ⟨congrArg Prod.fst sT_381, G1⟩ (Nat.le_of_ble_eq_true rfl) (mx_wp.mono (fun o h2 q => ?_) (wp_dm (by decide : 500 ≤ 999) (wp_S1 (post h1 mdl_rfl))))
    obtain ⟨s2, b, rfl, an, bd, g2⟩ := q
    have evb : v = b := an.2
    show mx_wp 1000 346 1194 [some (.ref 1), some (.ref 100), some (.ref 381), some (.ref 391), some (.int (nI i)), w5, w6] [.int b, .int v] h2 Qf
    refine wp_br (P := True) (c := v = b) (t := 1565) (st' := []) rfl rfl trivial (fun _ => ?_) (fun c => absurd evb c)
    exact K h2 _ _ g2 bd (sc1_tr s1 s2)
  · skip
    refine wp_steps (i' := 1178) (ls' := [some (.ref 1), some (.ref 100), some (.ref 381), some (.ref 391), some (.int (nI i)), w5, w6]) (st' := [.int (mx_i h 1 (nI i + 1).toNatClampNeg), .ref 100]) (h' := h) (P := (1 = 1 ∧ vp_in (nI i + 1) (mx_r h 1 0)) ∧ True) 6 rfl rfl ⟨⟨rfl, vpi hL hi hL2 (j := 1) (by decide)⟩, trivial⟩ ?_
    refine wp_br (P := True) (c := (mx_i h 1 (nI i + 1).toNatClampNeg) = 0) (t := 1181) (st' := [.ref 100]) rfl rfl trivial (fun c => ?_) (fun c => ?_)
    · exact absurd c cb
    refine wp_steps (i' := 1180) (ls' := [some (.ref 1), some (.ref 100), some (.ref 381), some (.ref 391), some (.int (nI i)), w5, w6]) (st' := [.int 1, .ref 100]) (h' := h) (P := True) 1 rfl rfl trivial ?_
    refine wp_J (j := 1182) (st' := [.int 1, .ref 100]) rfl rfl ?_
    refine wp_call (b := false) (y' := 170) (as := [.ref 100, .int 1]) (rest := []) (P := ((mxT 100).1 = mxRc 170 ∧ mxG h)) rfl (by with_unfolding_all rfl) ⟨congrArg Prod.fst sT_100, G⟩ (Nat.le_of_ble_eq_true rfl) (mx_wp.mono (fun o h1 q => ?_) (wp_dm (by decide : 500 ≤ 999) (wp_S1 (wp_G (by decide +kernel) G (O 1 h vn vd vr vq np ns nl I)))))
    obtain ⟨s1, G1, post⟩ := q
    obtain ⟨n0, o20, h20, e0, b0, eb0, an0, r0⟩ := post h1 mdl_rfl
    rcases ans_cases an0 with ⟨v, rfl, -, -⟩ | ⟨kx, -, -, q⟩
    rotate_left
    · exact absurd (hcode kx) q
    show mx_wp 1000 346 1183 [some (.ref 1), some (.ref 100), some (.ref 381), some (.ref 391), some (.int (nI i)), w5, w6] [.int v] h1 Qf
    have hL1 : mx_r h1 1 0 = L := by rw [s1.2.1]; exact hL
    have sch : mx_i h1 1 = mx_i h 1 := s1.1
    refine wp_steps (i' := 1189) (ls' := [some (.ref 1), some (.ref 100), some (.ref 381), some (.ref 391), some (.int (nI i)), w5, w6]) (st' := [.int (mx_i h1 1 (nI i + 1).toNatClampNeg), .ref 381, .int v]) (h' := h1) (P := (1 = 1 ∧ vp_in (nI i + 1) (mx_r h1 1 0)) ∧ True) 6 rfl rfl ⟨⟨rfl, vpi hL1 hi hL2 (j := 1) (by decide)⟩, trivial⟩ ?_
    refine wp_br (P := True) (c := (mx_i h1 1 (nI i + 1).toNatClampNeg) = 0) (t := 1192) (st' := [.ref 381, .int v]) rfl rfl trivial (fun c => ?_) (fun c => ?_)
    · exact absurd c (by rw [sch]; exact cb)
    refine wp_steps (i' := 1191) (ls' := [some (.ref 1), some (.ref 100), some (.ref 381), some (.ref 391), some (.int (nI i)), w5, w6]) (st' := [.int 1, .ref 381, .int v]) (h' := h1) (P := True) 1 rfl rfl trivial ?_
    refine wp_J (j := 1193) (st' := [.int 1, .ref 381, .int v]) rfl rfl ?_
    skip
    refine wp_call (b := false) (y' := 285) (as := [.ref 381, .int 1]) (rest := [.int v]) (P := ((mxT 381).1 = mxRc 285 ∧ mxG h1)) rfl (by with_unfolding_all rfl) ⟨congrArg Prod.fst sT_381, G1⟩ (Nat.le_of_ble_eq_true rfl) (mx_wp.mono (fun o h2 q => ?_) (wp_dm (by decide : 500 ≤ 999) (wp_S1 (post h1 mdl_rfl))))
    obtain ⟨s2, b, rfl, an, bd, g2⟩ := q
    have evb : v = b := an.2
    show mx_wp 1000 346 1194 [some (.ref 1), some (.ref 100), some (.ref 381), some (.ref 391), some (.int (nI i)), w5, w6] [.int b, .int v] h2 Qf
    refine wp_br (P := True) (c := v = b) (t := 1565) (st' := []) rfl rfl trivial (fun _ => ?_) (fun c => absurd evb c)
    exact K h2 _ _ g2 bd (sc1_tr s1 s2)
set_option maxRecDepth 8000 in
theorem cs_32 {LW : mxLW} {h : mxH} {i L : Nat} {w5 w6 : Option Value} {Qf : mxO → mxH → Prop} {code : Nat → Int32} (O : Op LW 160 286 [] code) (hcode : ∀ k, code k = 0) (g : GS LW h) (hL : mx_r h 1 0 = L) (hi : i + 6 ≤ L) (hL2 : L ≤ 3072) (K : ∀ (h2 : mxH) (w5 w6 : Option Value), GS LW h2 → bud h h2 → sc1 h h2 → mx_wp 1000 346 1565 [some (.ref 1), some (.ref 100), some (.ref 381), some (.ref 391), some (.int (nI i)), w5, w6] [] h2 Qf) : mx_wp 1000 346 1197 [some (.ref 1), some (.ref 100), some (.ref 381), some (.ref 391), some (.int (nI i)), w5, w6] [] h Qf := by
  have G := GS_G g
  obtain ⟨vn, vd, vr, vq, np, ns, nl, I⟩ := g
  refine wp_steps (i' := 1198) (ls' := [some (.ref 1), some (.ref 100), some (.ref 381), some (.ref 391), some (.int (nI i)), w5, w6]) (st' := [.ref 100]) (h' := h) (P := True) 1 rfl rfl trivial ?_
  refine wp_call (b := false) (y' := 160) (as := [.ref 100]) (rest := []) (P := ((mxT 100).1 = mxRc 160 ∧ mxG h)) rfl (by with_unfolding_all rfl) ⟨congrArg Prod.fst sT_100, G⟩ (Nat.le_of_ble_eq_true rfl) (mx_wp.mono (fun o h1 q => ?_) (wp_dm (by decide : 500 ≤ 999) (wp_S1 (wp_G (by decide +kernel) G (O  h vn vd vr vq np ns nl I)))))
  obtain ⟨s1, G1, post⟩ := q
  obtain ⟨n0, o20, h20, e0, b0, eb0, an0, r0⟩ := post h1 mdl_rfl
  rcases ans_cases an0 with ⟨v, rfl, -, -⟩ | ⟨kx, -, -, q⟩
  rotate_left
  · exact absurd (hcode kx) q
  show mx_wp 1000 346 1199 [some (.ref 1), some (.ref 100), some (.ref 381), some (.ref 391), some (.int (nI i)), w5, w6] [.int v] h1 Qf
  have hL1 : mx_r h1 1 0 = L := by rw [s1.2.1]; exact hL
  have sch : mx_i h1 1 = mx_i h 1 := s1.1
  refine wp_steps (i' := 1200) (ls' := [some (.ref 1), some (.ref 100), some (.ref 381), some (.ref 391), some (.int (nI i)), w5, w6]) (st' := [.ref 381, .int v]) (h' := h1) (P := True) 1 rfl rfl trivial ?_
  skip
  refine wp_call (b := false) (y' := 286) (as := [.ref 381]) (rest := [.int v]) (P := ((mxT 381).1 = mxRc 286 ∧ mxG h1)) rfl (by with_unfolding_all rfl) ⟨congrArg Prod.fst sT_381, G1⟩ (Nat.le_of_ble_eq_true rfl) (mx_wp.mono (fun o h2 q => ?_) (wp_dm (by decide : 500 ≤ 999) (wp_S1 (post h1 mdl_rfl))))
  obtain ⟨s2, b, rfl, an, bd, g2⟩ := q
  have evb : v = b := an.2
  show mx_wp 1000 346 1201 [some (.ref 1), some (.ref 100), some (.ref 381), some (.ref 391), some (.int (nI i)), w5, w6] [.int b, .int v] h2 Qf
  refine wp_br (P := True) (c := v = b) (t := 1565) (st' := []) rfl rfl trivial (fun _ => ?_) (fun c => absurd evb c)
  exact K h2 _ _ g2 bd (sc1_tr s1 s2)
set_option maxRecDepth 8000 in
theorem cs_33 {LW : mxLW} {h : mxH} {i L : Nat} {w5 w6 : Option Value} {Qf : mxO → mxH → Prop} {code : Nat → Int32} (O : Op LW 161 287 [] code) (hcode : ∀ k, code k = 0) (g : GS LW h) (hL : mx_r h 1 0 = L) (hi : i + 6 ≤ L) (hL2 : L ≤ 3072) (K : ∀ (h2 : mxH) (w5 w6 : Option Value), GS LW h2 → bud h h2 → sc1 h h2 → mx_wp 1000 346 1565 [some (.ref 1), some (.ref 100), some (.ref 381), some (.ref 391), some (.int (nI i)), w5, w6] [] h2 Qf) : mx_wp 1000 346 1204 [some (.ref 1), some (.ref 100), some (.ref 381), some (.ref 391), some (.int (nI i)), w5, w6] [] h Qf := by
  have G := GS_G g
  obtain ⟨vn, vd, vr, vq, np, ns, nl, I⟩ := g
  refine wp_steps (i' := 1205) (ls' := [some (.ref 1), some (.ref 100), some (.ref 381), some (.ref 391), some (.int (nI i)), w5, w6]) (st' := [.ref 100]) (h' := h) (P := True) 1 rfl rfl trivial ?_
  refine wp_call (b := false) (y' := 161) (as := [.ref 100]) (rest := []) (P := ((mxT 100).1 = mxRc 161 ∧ mxG h)) rfl (by with_unfolding_all rfl) ⟨congrArg Prod.fst sT_100, G⟩ (Nat.le_of_ble_eq_true rfl) (mx_wp.mono (fun o h1 q => ?_) (wp_dm (by decide : 500 ≤ 999) (wp_S1 (wp_G (by decide +kernel) G (O  h vn vd vr vq np ns nl I)))))
  obtain ⟨s1, G1, post⟩ := q
  obtain ⟨n0, o20, h20, e0, b0, eb0, an0, r0⟩ := post h1 mdl_rfl
  rcases ans_cases an0 with ⟨v, rfl, -, -⟩ | ⟨kx, -, -, q⟩
  rotate_left
  · exact absurd (hcode kx) q
  show mx_wp 1000 346 1206 [some (.ref 1), some (.ref 100), some (.ref 381), some (.ref 391), some (.int (nI i)), w5, w6] [.int v] h1 Qf
  have hL1 : mx_r h1 1 0 = L := by rw [s1.2.1]; exact hL
  have sch : mx_i h1 1 = mx_i h 1 := s1.1
  refine wp_steps (i' := 1207) (ls' := [some (.ref 1), some (.ref 100), some (.ref 381), some (.ref 391), some (.int (nI i)), w5, w6]) (st' := [.ref 381, .int v]) (h' := h1) (P := True) 1 rfl rfl trivial ?_
  skip
  refine wp_call (b := false) (y' := 287) (as := [.ref 381]) (rest := [.int v]) (P := ((mxT 381).1 = mxRc 287 ∧ mxG h1)) rfl (by with_unfolding_all rfl) ⟨congrArg Prod.fst sT_381, G1⟩ (Nat.le_of_ble_eq_true rfl) (mx_wp.mono (fun o h2 q => ?_) (wp_dm (by decide : 500 ≤ 999) (wp_S1 (post h1 mdl_rfl))))
  obtain ⟨s2, b, rfl, an, bd, g2⟩ := q
  have evb : v = b := an.2
  show mx_wp 1000 346 1208 [some (.ref 1), some (.ref 100), some (.ref 381), some (.ref 391), some (.int (nI i)), w5, w6] [.int b, .int v] h2 Qf
  refine wp_br (P := True) (c := v = b) (t := 1565) (st' := []) rfl rfl trivial (fun _ => ?_) (fun c => absurd evb c)
  exact K h2 _ _ g2 bd (sc1_tr s1 s2)
set_option maxRecDepth 8000 in
theorem cs_34 {LW : mxLW} {h : mxH} {i L : Nat} {w5 w6 : Option Value} {Qf : mxO → mxH → Prop} {code : Nat → Int32} (O : Op LW 162 288 [] code) (hcode : ∀ k, code k = 0) (g : GS LW h) (hL : mx_r h 1 0 = L) (hi : i + 6 ≤ L) (hL2 : L ≤ 3072) (K : ∀ (h2 : mxH) (w5 w6 : Option Value), GS LW h2 → bud h h2 → sc1 h h2 → mx_wp 1000 346 1565 [some (.ref 1), some (.ref 100), some (.ref 381), some (.ref 391), some (.int (nI i)), w5, w6] [] h2 Qf) : mx_wp 1000 346 1211 [some (.ref 1), some (.ref 100), some (.ref 381), some (.ref 391), some (.int (nI i)), w5, w6] [] h Qf := by
  have G := GS_G g
  obtain ⟨vn, vd, vr, vq, np, ns, nl, I⟩ := g
  refine wp_steps (i' := 1212) (ls' := [some (.ref 1), some (.ref 100), some (.ref 381), some (.ref 391), some (.int (nI i)), w5, w6]) (st' := [.ref 100]) (h' := h) (P := True) 1 rfl rfl trivial ?_
  refine wp_call (b := false) (y' := 162) (as := [.ref 100]) (rest := []) (P := ((mxT 100).1 = mxRc 162 ∧ mxG h)) rfl (by with_unfolding_all rfl) ⟨congrArg Prod.fst sT_100, G⟩ (Nat.le_of_ble_eq_true rfl) (mx_wp.mono (fun o h1 q => ?_) (wp_dm (by decide : 500 ≤ 999) (wp_S1 (wp_G (by decide +kernel) G (O  h vn vd vr vq np ns nl I)))))
  obtain ⟨s1, G1, post⟩ := q
  obtain ⟨n0, o20, h20, e0, b0, eb0, an0, r0⟩ := post h1 mdl_rfl
  rcases ans_cases an0 with ⟨v, rfl, -, -⟩ | ⟨kx, -, -, q⟩
  rotate_left
  · exact absurd (hcode kx) q
  show mx_wp 1000 346 1213 [some (.ref 1), some (.ref 100), some (.ref 381), some (.ref 391), some (.int (nI i)), w5, w6] [.int v] h1 Qf
  have hL1 : mx_r h1 1 0 = L := by rw [s1.2.1]; exact hL
  have sch : mx_i h1 1 = mx_i h 1 := s1.1
  refine wp_steps (i' := 1214) (ls' := [some (.ref 1), some (.ref 100), some (.ref 381), some (.ref 391), some (.int (nI i)), w5, w6]) (st' := [.ref 381, .int v]) (h' := h1) (P := True) 1 rfl rfl trivial ?_
  skip
  refine wp_call (b := false) (y' := 288) (as := [.ref 381]) (rest := [.int v]) (P := ((mxT 381).1 = mxRc 288 ∧ mxG h1)) rfl (by with_unfolding_all rfl) ⟨congrArg Prod.fst sT_381, G1⟩ (Nat.le_of_ble_eq_true rfl) (mx_wp.mono (fun o h2 q => ?_) (wp_dm (by decide : 500 ≤ 999) (wp_S1 (post h1 mdl_rfl))))
  obtain ⟨s2, b, rfl, an, bd, g2⟩ := q
  have evb : v = b := an.2
  show mx_wp 1000 346 1215 [some (.ref 1), some (.ref 100), some (.ref 381), some (.ref 391), some (.int (nI i)), w5, w6] [.int b, .int v] h2 Qf
  refine wp_br (P := True) (c := v = b) (t := 1565) (st' := []) rfl rfl trivial (fun _ => ?_) (fun c => absurd evb c)
  exact K h2 _ _ g2 bd (sc1_tr s1 s2)
set_option maxRecDepth 8000 in
theorem cs_35 {LW : mxLW} {h : mxH} {i L : Nat} {w5 w6 : Option Value} {Qf : mxO → mxH → Prop} {code : Nat → Int32} (O : ∀ x0 : Int32, Op LW 171 290 [.int x0] code) (hcs : ∀ k, code k ≠ 0 → (k, code k) ∈ ([(0, 1)] : List (Nat × Int32))) (g : GS LW h) (hL : mx_r h 1 0 = L) (hi : i + 6 ≤ L) (hL2 : L ≤ 3072) (K : ∀ (h2 : mxH) (w5 w6 : Option Value), GS LW h2 → bud h h2 → sc1 h h2 → mx_wp 1000 346 1565 [some (.ref 1), some (.ref 100), some (.ref 381), some (.ref 391), some (.int (nI i)), w5, w6] [] h2 Qf) : mx_wp 1000 346 1218 [some (.ref 1), some (.ref 100), some (.ref 381), some (.ref 391), some (.int (nI i)), w5, w6] [] h Qf := by
  have G := GS_G g
  obtain ⟨vn, vd, vr, vq, np, ns, nl, I⟩ := g
  have step : ∀ (o : mxO) (h1 hm : mxH) (kk : Int32), mxG h1 → sc1 h h1 → (∀ hm, mdl h1 hm → mx_wp 500 290 0 (mx_fr 290 [.ref 381, .int (mx_i h 1 (nI i + 1).toNatClampNeg)]) [] hm (fun o2 h2 => ∃ b, o2 = .inl (some (.int b)) ∧ ansOk code o b (mx_i h2 381 0) ∧ bud h h2 ∧ GS LW h2)) → mdl h1 hm → (∀ b t, ansOk code o b t → t = kk ∧ (kk = 0 → lg_cmp (mx_l hm 391 0) b.toInt64 = 0)) → mx_wp 1000 346 1226 [some (.ref 1), some (.ref 100), some (.ref 381), some (.ref 391), some (.int (nI i)), w5, w6] [.int kk] hm Qf := by
    intro o h1 hm kk G1 s1 post hmd hk
    have sch : mx_i hm 1 = mx_i h 1 := by rw [hmd.2.2.2.1]; exact s1.1
    have hLm : mx_r hm 1 0 = L := by rw [hmd.2.2.2.2, s1.2.1]; exact hL
    have Gm : mxG hm := agr_G (P := fun _ => False) (agr_mdl hmd) G1
    refine wp_steps (i' := 1227) (ls' := [some (.ref 1), some (.ref 100), some (.ref 381), some (.ref 391), some (.int (nI i)), some (.int kk), w6]) (st' := []) (h' := hm) (P := True) 1 rfl rfl trivial ?_
    refine wp_steps (i' := 1233) (ls' := [some (.ref 1), some (.ref 100), some (.ref 381), some (.ref 391), some (.int (nI i)), some (.int kk), w6]) (st' := [.int (mx_i hm 1 (nI i + 1).toNatClampNeg), .ref 381]) (h' := hm) (P := (1 = 1 ∧ vp_in (nI i + 1) (mx_r hm 1 0)) ∧ True) 6 rfl rfl ⟨⟨rfl, vpi hLm hi hL2 (j := 1) (by decide)⟩, trivial⟩ ?_
    rw [sch]
    refine wp_call (b := false) (y' := 290) (as := [.ref 381, .int (mx_i h 1 (nI i + 1).toNatClampNeg)]) (rest := []) (P := ((mxT 381).1 = mxRc 290 ∧ mxG hm)) rfl (by with_unfolding_all rfl) ⟨congrArg Prod.fst sT_381, Gm⟩ (Nat.le_of_ble_eq_true rfl) (mx_wp.mono (fun o2 h2 q => ?_) (wp_dm (by decide : 500 ≤ 999) (wp_L (by decide +kernel) Gm (wp_S1 (post hm hmd)))))
    obtain ⟨ql, s2, b, rfl, an, bd, g2⟩ := q
    obtain ⟨et, el⟩ := hk b _ an
    have G2 := GS_G g2
    show mx_wp 1000 346 1234 [some (.ref 1), some (.ref 100), some (.ref 381), some (.ref 391), some (.int (nI i)), some (.int kk), w6] [.int b] h2 Qf
    refine wp_steps (i' := 1236) (ls' := [some (.ref 1), some (.ref 100), some (.ref 381), some (.ref 391), some (.int (nI i)), some (.int kk), some (.int b)]) (st' := [.ref 381]) (h' := h2) (P := True) 2 rfl rfl trivial ?_
    refine wp_call (b := false) (y' := 190) (as := [.ref 381]) (rest := []) (P := ((mxT 381).1 = mxRc 190 ∧ mxG h2)) rfl (by with_unfolding_all rfl) ⟨congrArg Prod.fst sT_381, G2⟩ (Nat.le_of_ble_eq_true rfl) (tr_190_0 G2 ?_)
    show mx_wp 1000 346 1237 [some (.ref 1), some (.ref 100), some (.ref 381), some (.ref 391), some (.int (nI i)), some (.int kk), some (.int b)] [.int (mx_i h2 381 0)] h2 Qf
    rw [et]
    refine wp_steps (i' := 1238) (ls' := [some (.ref 1), some (.ref 100), some (.ref 381), some (.ref 391), some (.int (nI i)), some (.int kk), some (.int b)]) (st' := [.int kk, .int kk]) (h' := h2) (P := True) 1 rfl rfl trivial ?_
    refine wp_br (P := True) (c := kk = kk) (t := 1241) (st' := []) rfl rfl trivial (fun _ => ?_) (fun c => absurd rfl c)
    refine wp_steps (i' := 1242) (ls' := [some (.ref 1), some (.ref 100), some (.ref 381), some (.ref 391), some (.int (nI i)), some (.int kk), some (.int b)]) (st' := [.int kk]) (h' := h2) (P := True) 1 rfl rfl trivial ?_
    refine wp_br (P := True) (c := ¬ kk = 0) (t := 1252) (st' := []) rfl rfl trivial (fun _ => ?_) (fun c => ?_)
    · refine wp_J (j := 1565) (st' := []) rfl rfl ?_
      exact K h2 _ _ g2 bd (sc1_tr s1 (sc1_tr (sc1_mdl hmd) s2))
    · have c0 := el (Decidable.of_not_not c)
      rw [← ql] at c0
      refine wp_steps (i' := 1249) (ls' := [some (.ref 1), some (.ref 100), some (.ref 381), some (.ref 391), some (.int (nI i)), some (.int kk), some (.int b)]) (st' := [.int (lg_cmp (mx_l h2 391 0) b.toInt64)]) (h' := h2) (P := (((mxT 391).1 = 52 ∧ mxG h2) ∧ vp_in 0 (mxT 391).2) ∧ True) 6 rfl rfl ⟨cA sT_391 G2 (vpl rfl), trivial⟩ ?_
      refine wp_br (P := True) (c := lg_cmp (mx_l h2 391 0) b.toInt64 = 0) (t := 1252) (st' := []) rfl rfl trivial (fun _ => ?_) (fun c => absurd c0 c)
      refine wp_J (j := 1565) (st' := []) rfl rfl ?_
      exact K h2 _ _ g2 bd (sc1_tr s1 (sc1_tr (sc1_mdl hmd) s2))
  refine wp_steps (i' := 1225) (ls' := [some (.ref 1), some (.ref 100), some (.ref 381), some (.ref 391), some (.int (nI i)), w5, w6]) (st' := [.ref 391, .int (mx_i h 1 (nI i + 1).toNatClampNeg), .ref 100]) (h' := h) (P := (1 = 1 ∧ vp_in (nI i + 1) (mx_r h 1 0)) ∧ True) 7 rfl rfl ⟨⟨rfl, vpi hL hi hL2 (j := 1) (by decide)⟩, trivial⟩ ?_
  refine wp_call (b := false) (y' := 340) (as := [.ref 100, .int (mx_i h 1 (nI i + 1).toNatClampNeg), .ref 391]) (rest := []) (P := True) rfl (by with_unfolding_all rfl) trivial (Nat.le_of_ble_eq_true rfl) (wr_340 G (mx_wp.mono (fun o h1 q => ?_) (wp_dm (by decide : 500 ≤ 998) (wp_S1 (wp_G (by decide +kernel) G (O (mx_i h 1 (nI i + 1).toNatClampNeg) h vn vd vr vq np ns nl I))))))
  obtain ⟨s1, G1, post⟩ := q
  obtain ⟨n0, o20, h20, e0, b0, eb0, an0, r0⟩ := post h1 mdl_rfl
  refine ⟨G1, ?_⟩
  rcases ans_cases an0 with ⟨v, rfl, -, -⟩ | ⟨kx, rfl, -, q⟩
  · show mx_wp 1000 346 1226 [some (.ref 1), some (.ref 100), some (.ref 381), some (.ref 391), some (.int (nI i)), w5, w6] [.int 0] (mx_wl h1 391 0 v.toInt64) Qf
    refine step _ h1 _ 0 G1 s1 post mdl_wl (fun b t a => ⟨a.1, fun _ => ?_⟩)
    have hvb : v = b := a.2
    rw [wl_at, hvb]; exact lgc _
  · refine ⟨code kx, hcs kx q, ?_⟩
    show mx_wp 1000 346 1226 [some (.ref 1), some (.ref 100), some (.ref 381), some (.ref 391), some (.int (nI i)), w5, w6] [.int (code kx)] h1 Qf
    exact step _ h1 _ _ G1 s1 post mdl_rfl (fun b t a => ⟨a.1, fun e => absurd e q⟩)
set_option maxRecDepth 8000 in
theorem cs_36 {LW : mxLW} {h : mxH} {i L : Nat} {w5 w6 : Option Value} {Qf : mxO → mxH → Prop} {code : Nat → Int32} (O : ∀ x0 x1 x2 : Int32, Op LW 172 291 [.int x0, .int x1, .int x2] code) (hcs : ∀ k, code k ≠ 0 → (k, code k) ∈ ([(2, 1), (0, 2), (3, 3)] : List (Nat × Int32))) (g : GS LW h) (hL : mx_r h 1 0 = L) (hi : i + 6 ≤ L) (hL2 : L ≤ 3072) (K : ∀ (h2 : mxH) (w5 w6 : Option Value), GS LW h2 → bud h h2 → sc1 h h2 → mx_wp 1000 346 1565 [some (.ref 1), some (.ref 100), some (.ref 381), some (.ref 391), some (.int (nI i)), w5, w6] [] h2 Qf) : mx_wp 1000 346 1253 [some (.ref 1), some (.ref 100), some (.ref 381), some (.ref 391), some (.int (nI i)), w5, w6] [] h Qf := by
  have G := GS_G g
  obtain ⟨vn, vd, vr, vq, np, ns, nl, I⟩ := g
  have step : ∀ (o : mxO) (h1 hm : mxH) (kk : Int32), mxG h1 → sc1 h h1 → (∀ hm, mdl h1 hm → mx_wp 500 291 0 (mx_fr 291 [.ref 381, .int (mx_i h 1 (nI i + 1).toNatClampNeg), .int (mx_i h 1 (nI i + 2).toNatClampNeg), .int (mx_i h 1 (nI i + 3).toNatClampNeg)]) [] hm (fun o2 h2 => ∃ b, o2 = .inl (some (.int b)) ∧ ansOk code o b (mx_i h2 381 0) ∧ bud h h2 ∧ GS LW h2)) → mdl h1 hm → (∀ b t, ansOk code o b t → t = kk ∧ (kk = 0 → lg_cmp (mx_l hm 391 0) b.toInt64 = 0)) → mx_wp 1000 346 1271 [some (.ref 1), some (.ref 100), some (.ref 381), some (.ref 391), some (.int (nI i)), w5, w6] [.int kk] hm Qf := by
    intro o h1 hm kk G1 s1 post hmd hk
    have sch : mx_i hm 1 = mx_i h 1 := by rw [hmd.2.2.2.1]; exact s1.1
    have hLm : mx_r hm 1 0 = L := by rw [hmd.2.2.2.2, s1.2.1]; exact hL
    have Gm : mxG hm := agr_G (P := fun _ => False) (agr_mdl hmd) G1
    refine wp_steps (i' := 1272) (ls' := [some (.ref 1), some (.ref 100), some (.ref 381), some (.ref 391), some (.int (nI i)), some (.int kk), w6]) (st' := []) (h' := hm) (P := True) 1 rfl rfl trivial ?_
    refine wp_steps (i' := 1288) (ls' := [some (.ref 1), some (.ref 100), some (.ref 381), some (.ref 391), some (.int (nI i)), some (.int kk), w6]) (st' := [.int (mx_i hm 1 (nI i + 3).toNatClampNeg), .int (mx_i hm 1 (nI i + 2).toNatClampNeg), .int (mx_i hm 1 (nI i + 1).toNatClampNeg), .ref 381]) (h' := hm) (P := (1 = 1 ∧ vp_in (nI i + 1) (mx_r hm 1 0)) ∧ (1 = 1 ∧ vp_in (nI i + 2) (mx_r hm 1 0)) ∧ (1 = 1 ∧ vp_in (nI i + 3) (mx_r hm 1 0)) ∧ True) 16 rfl rfl ⟨⟨rfl, vpi hLm hi hL2 (j := 1) (by decide)⟩, ⟨rfl, vpi hLm hi hL2 (j := 2) (by decide)⟩, ⟨rfl, vpi hLm hi hL2 (j := 3) (by decide)⟩, trivial⟩ ?_
    rw [sch]
    refine wp_call (b := false) (y' := 291) (as := [.ref 381, .int (mx_i h 1 (nI i + 1).toNatClampNeg), .int (mx_i h 1 (nI i + 2).toNatClampNeg), .int (mx_i h 1 (nI i + 3).toNatClampNeg)]) (rest := []) (P := ((mxT 381).1 = mxRc 291 ∧ mxG hm)) rfl (by with_unfolding_all rfl) ⟨congrArg Prod.fst sT_381, Gm⟩ (Nat.le_of_ble_eq_true rfl) (mx_wp.mono (fun o2 h2 q => ?_) (wp_dm (by decide : 500 ≤ 999) (wp_L (by decide +kernel) Gm (wp_S1 (post hm hmd)))))
    obtain ⟨ql, s2, b, rfl, an, bd, g2⟩ := q
    obtain ⟨et, el⟩ := hk b _ an
    have G2 := GS_G g2
    show mx_wp 1000 346 1289 [some (.ref 1), some (.ref 100), some (.ref 381), some (.ref 391), some (.int (nI i)), some (.int kk), w6] [.int b] h2 Qf
    refine wp_steps (i' := 1291) (ls' := [some (.ref 1), some (.ref 100), some (.ref 381), some (.ref 391), some (.int (nI i)), some (.int kk), some (.int b)]) (st' := [.ref 381]) (h' := h2) (P := True) 2 rfl rfl trivial ?_
    refine wp_call (b := false) (y' := 190) (as := [.ref 381]) (rest := []) (P := ((mxT 381).1 = mxRc 190 ∧ mxG h2)) rfl (by with_unfolding_all rfl) ⟨congrArg Prod.fst sT_381, G2⟩ (Nat.le_of_ble_eq_true rfl) (tr_190_0 G2 ?_)
    show mx_wp 1000 346 1292 [some (.ref 1), some (.ref 100), some (.ref 381), some (.ref 391), some (.int (nI i)), some (.int kk), some (.int b)] [.int (mx_i h2 381 0)] h2 Qf
    rw [et]
    refine wp_steps (i' := 1293) (ls' := [some (.ref 1), some (.ref 100), some (.ref 381), some (.ref 391), some (.int (nI i)), some (.int kk), some (.int b)]) (st' := [.int kk, .int kk]) (h' := h2) (P := True) 1 rfl rfl trivial ?_
    refine wp_br (P := True) (c := kk = kk) (t := 1296) (st' := []) rfl rfl trivial (fun _ => ?_) (fun c => absurd rfl c)
    refine wp_steps (i' := 1297) (ls' := [some (.ref 1), some (.ref 100), some (.ref 381), some (.ref 391), some (.int (nI i)), some (.int kk), some (.int b)]) (st' := [.int kk]) (h' := h2) (P := True) 1 rfl rfl trivial ?_
    refine wp_br (P := True) (c := ¬ kk = 0) (t := 1307) (st' := []) rfl rfl trivial (fun _ => ?_) (fun c => ?_)
    · refine wp_J (j := 1565) (st' := []) rfl rfl ?_
      exact K h2 _ _ g2 bd (sc1_tr s1 (sc1_tr (sc1_mdl hmd) s2))
    · have c0 := el (Decidable.of_not_not c)
      rw [← ql] at c0
      refine wp_steps (i' := 1304) (ls' := [some (.ref 1), some (.ref 100), some (.ref 381), some (.ref 391), some (.int (nI i)), some (.int kk), some (.int b)]) (st' := [.int (lg_cmp (mx_l h2 391 0) b.toInt64)]) (h' := h2) (P := (((mxT 391).1 = 52 ∧ mxG h2) ∧ vp_in 0 (mxT 391).2) ∧ True) 6 rfl rfl ⟨cA sT_391 G2 (vpl rfl), trivial⟩ ?_
      refine wp_br (P := True) (c := lg_cmp (mx_l h2 391 0) b.toInt64 = 0) (t := 1307) (st' := []) rfl rfl trivial (fun _ => ?_) (fun c => absurd c0 c)
      refine wp_J (j := 1565) (st' := []) rfl rfl ?_
      exact K h2 _ _ g2 bd (sc1_tr s1 (sc1_tr (sc1_mdl hmd) s2))
  refine wp_steps (i' := 1270) (ls' := [some (.ref 1), some (.ref 100), some (.ref 381), some (.ref 391), some (.int (nI i)), w5, w6]) (st' := [.ref 391, .int (mx_i h 1 (nI i + 3).toNatClampNeg), .int (mx_i h 1 (nI i + 2).toNatClampNeg), .int (mx_i h 1 (nI i + 1).toNatClampNeg), .ref 100]) (h' := h) (P := (1 = 1 ∧ vp_in (nI i + 1) (mx_r h 1 0)) ∧ (1 = 1 ∧ vp_in (nI i + 2) (mx_r h 1 0)) ∧ (1 = 1 ∧ vp_in (nI i + 3) (mx_r h 1 0)) ∧ True) 17 rfl rfl ⟨⟨rfl, vpi hL hi hL2 (j := 1) (by decide)⟩, ⟨rfl, vpi hL hi hL2 (j := 2) (by decide)⟩, ⟨rfl, vpi hL hi hL2 (j := 3) (by decide)⟩, trivial⟩ ?_
  refine wp_call (b := false) (y' := 341) (as := [.ref 100, .int (mx_i h 1 (nI i + 1).toNatClampNeg), .int (mx_i h 1 (nI i + 2).toNatClampNeg), .int (mx_i h 1 (nI i + 3).toNatClampNeg), .ref 391]) (rest := []) (P := True) rfl (by with_unfolding_all rfl) trivial (Nat.le_of_ble_eq_true rfl) (wr_341 G (mx_wp.mono (fun o h1 q => ?_) (wp_dm (by decide : 500 ≤ 998) (wp_S1 (wp_G (by decide +kernel) G (O (mx_i h 1 (nI i + 1).toNatClampNeg) (mx_i h 1 (nI i + 2).toNatClampNeg) (mx_i h 1 (nI i + 3).toNatClampNeg) h vn vd vr vq np ns nl I))))))
  obtain ⟨s1, G1, post⟩ := q
  obtain ⟨n0, o20, h20, e0, b0, eb0, an0, r0⟩ := post h1 mdl_rfl
  refine ⟨G1, ?_⟩
  rcases ans_cases an0 with ⟨v, rfl, -, -⟩ | ⟨kx, rfl, -, q⟩
  · show mx_wp 1000 346 1271 [some (.ref 1), some (.ref 100), some (.ref 381), some (.ref 391), some (.int (nI i)), w5, w6] [.int 0] (mx_wl h1 391 0 v.toInt64) Qf
    refine step _ h1 _ 0 G1 s1 post mdl_wl (fun b t a => ⟨a.1, fun _ => ?_⟩)
    have hvb : v = b := a.2
    rw [wl_at, hvb]; exact lgc _
  · refine ⟨code kx, hcs kx q, ?_⟩
    show mx_wp 1000 346 1271 [some (.ref 1), some (.ref 100), some (.ref 381), some (.ref 391), some (.int (nI i)), w5, w6] [.int (code kx)] h1 Qf
    exact step _ h1 _ _ G1 s1 post mdl_rfl (fun b t a => ⟨a.1, fun e => absurd e q⟩)
set_option maxRecDepth 8000 in
theorem cs_37 {LW : mxLW} {h : mxH} {i L : Nat} {w5 w6 : Option Value} {Qf : mxO → mxH → Prop} {code : Nat → Int32} (O : ∀ x0 x1 : Int32, Op LW 173 294 [.int x0, .int x1] code) (hcs : ∀ k, code k ≠ 0 → (k, code k) ∈ ([(0, 1)] : List (Nat × Int32))) (g : GS LW h) (hL : mx_r h 1 0 = L) (hi : i + 6 ≤ L) (hL2 : L ≤ 3072) (K : ∀ (h2 : mxH) (w5 w6 : Option Value), GS LW h2 → bud h h2 → sc1 h h2 → mx_wp 1000 346 1565 [some (.ref 1), some (.ref 100), some (.ref 381), some (.ref 391), some (.int (nI i)), w5, w6] [] h2 Qf) : mx_wp 1000 346 1308 [some (.ref 1), some (.ref 100), some (.ref 381), some (.ref 391), some (.int (nI i)), w5, w6] [] h Qf := by
  have G := GS_G g
  obtain ⟨vn, vd, vr, vq, np, ns, nl, I⟩ := g
  by_cases cb : (mx_i h 1 (nI i + 2).toNatClampNeg) = 0
  · skip
    have step : ∀ (o : mxO) (h1 hm : mxH) (kk : Int32), mxG h1 → sc1 h h1 → (∀ hm, mdl h1 hm → mx_wp 500 294 0 (mx_fr 294 [.ref 381, .int (mx_i h 1 (nI i + 1).toNatClampNeg), .int 0]) [] hm (fun o2 h2 => ∃ b, o2 = .inl (some (.int b)) ∧ ansOk code o b (mx_i h2 381 0) ∧ bud h h2 ∧ GS LW h2)) → mdl h1 hm → (∀ b t, ansOk code o b t → t = kk ∧ (kk = 0 → lg_cmp (mx_l hm 391 0) b.toInt64 = 0)) → mx_wp 1000 346 1325 [some (.ref 1), some (.ref 100), some (.ref 381), some (.ref 391), some (.int (nI i)), w5, w6] [.int kk] hm Qf := by
      intro o h1 hm kk G1 s1 post hmd hk
      have sch : mx_i hm 1 = mx_i h 1 := by rw [hmd.2.2.2.1]; exact s1.1
      have hLm : mx_r hm 1 0 = L := by rw [hmd.2.2.2.2, s1.2.1]; exact hL
      have Gm : mxG hm := agr_G (P := fun _ => False) (agr_mdl hmd) G1
      refine wp_steps (i' := 1326) (ls' := [some (.ref 1), some (.ref 100), some (.ref 381), some (.ref 391), some (.int (nI i)), some (.int kk), w6]) (st' := []) (h' := hm) (P := True) 1 rfl rfl trivial ?_
      refine wp_steps (i' := 1337) (ls' := [some (.ref 1), some (.ref 100), some (.ref 381), some (.ref 391), some (.int (nI i)), some (.int kk), w6]) (st' := [.int (mx_i hm 1 (nI i + 2).toNatClampNeg), .int (mx_i hm 1 (nI i + 1).toNatClampNeg), .ref 381]) (h' := hm) (P := (1 = 1 ∧ vp_in (nI i + 1) (mx_r hm 1 0)) ∧ (1 = 1 ∧ vp_in (nI i + 2) (mx_r hm 1 0)) ∧ True) 11 rfl rfl ⟨⟨rfl, vpi hLm hi hL2 (j := 1) (by decide)⟩, ⟨rfl, vpi hLm hi hL2 (j := 2) (by decide)⟩, trivial⟩ ?_
      refine wp_br (P := True) (c := (mx_i hm 1 (nI i + 2).toNatClampNeg) = 0) (t := 1340) (st' := [.int (mx_i hm 1 (nI i + 1).toNatClampNeg), .ref 381]) rfl rfl trivial (fun c => ?_) (fun c => ?_)
      rotate_left
      · exact absurd (by rw [sch]; exact cb) c
      refine wp_steps (i' := 1341) (ls' := [some (.ref 1), some (.ref 100), some (.ref 381), some (.ref 391), some (.int (nI i)), some (.int kk), w6]) (st' := [.int 0, .int (mx_i hm 1 (nI i + 1).toNatClampNeg), .ref 381]) (h' := hm) (P := True) 1 rfl rfl trivial ?_
      rw [sch]
      refine wp_call (b := false) (y' := 294) (as := [.ref 381, .int (mx_i h 1 (nI i + 1).toNatClampNeg), .int 0]) (rest := []) (P := ((mxT 381).1 = mxRc 294 ∧ mxG hm)) rfl (by with_unfolding_all rfl) ⟨congrArg Prod.fst sT_381, Gm⟩ (Nat.le_of_ble_eq_true rfl) (mx_wp.mono (fun o2 h2 q => ?_) (wp_dm (by decide : 500 ≤ 999) (wp_L (by decide +kernel) Gm (wp_S1 (post hm hmd)))))
      obtain ⟨ql, s2, b, rfl, an, bd, g2⟩ := q
      obtain ⟨et, el⟩ := hk b _ an
      have G2 := GS_G g2
      show mx_wp 1000 346 1342 [some (.ref 1), some (.ref 100), some (.ref 381), some (.ref 391), some (.int (nI i)), some (.int kk), w6] [.int b] h2 Qf
      refine wp_steps (i' := 1344) (ls' := [some (.ref 1), some (.ref 100), some (.ref 381), some (.ref 391), some (.int (nI i)), some (.int kk), some (.int b)]) (st' := [.ref 381]) (h' := h2) (P := True) 2 rfl rfl trivial ?_
      refine wp_call (b := false) (y' := 190) (as := [.ref 381]) (rest := []) (P := ((mxT 381).1 = mxRc 190 ∧ mxG h2)) rfl (by with_unfolding_all rfl) ⟨congrArg Prod.fst sT_381, G2⟩ (Nat.le_of_ble_eq_true rfl) (tr_190_0 G2 ?_)
      show mx_wp 1000 346 1345 [some (.ref 1), some (.ref 100), some (.ref 381), some (.ref 391), some (.int (nI i)), some (.int kk), some (.int b)] [.int (mx_i h2 381 0)] h2 Qf
      rw [et]
      refine wp_steps (i' := 1346) (ls' := [some (.ref 1), some (.ref 100), some (.ref 381), some (.ref 391), some (.int (nI i)), some (.int kk), some (.int b)]) (st' := [.int kk, .int kk]) (h' := h2) (P := True) 1 rfl rfl trivial ?_
      refine wp_br (P := True) (c := kk = kk) (t := 1349) (st' := []) rfl rfl trivial (fun _ => ?_) (fun c => absurd rfl c)
      refine wp_steps (i' := 1350) (ls' := [some (.ref 1), some (.ref 100), some (.ref 381), some (.ref 391), some (.int (nI i)), some (.int kk), some (.int b)]) (st' := [.int kk]) (h' := h2) (P := True) 1 rfl rfl trivial ?_
      refine wp_br (P := True) (c := ¬ kk = 0) (t := 1360) (st' := []) rfl rfl trivial (fun _ => ?_) (fun c => ?_)
      · refine wp_J (j := 1565) (st' := []) rfl rfl ?_
        exact K h2 _ _ g2 bd (sc1_tr s1 (sc1_tr (sc1_mdl hmd) s2))
      · have c0 := el (Decidable.of_not_not c)
        rw [← ql] at c0
        refine wp_steps (i' := 1357) (ls' := [some (.ref 1), some (.ref 100), some (.ref 381), some (.ref 391), some (.int (nI i)), some (.int kk), some (.int b)]) (st' := [.int (lg_cmp (mx_l h2 391 0) b.toInt64)]) (h' := h2) (P := (((mxT 391).1 = 52 ∧ mxG h2) ∧ vp_in 0 (mxT 391).2) ∧ True) 6 rfl rfl ⟨cA sT_391 G2 (vpl rfl), trivial⟩ ?_
        refine wp_br (P := True) (c := lg_cmp (mx_l h2 391 0) b.toInt64 = 0) (t := 1360) (st' := []) rfl rfl trivial (fun _ => ?_) (fun c => absurd c0 c)
        refine wp_J (j := 1565) (st' := []) rfl rfl ?_
        exact K h2 _ _ g2 bd (sc1_tr s1 (sc1_tr (sc1_mdl hmd) s2))
    refine wp_steps (i' := 1319) (ls' := [some (.ref 1), some (.ref 100), some (.ref 381), some (.ref 391), some (.int (nI i)), w5, w6]) (st' := [.int (mx_i h 1 (nI i + 2).toNatClampNeg), .int (mx_i h 1 (nI i + 1).toNatClampNeg), .ref 100]) (h' := h) (P := (1 = 1 ∧ vp_in (nI i + 1) (mx_r h 1 0)) ∧ (1 = 1 ∧ vp_in (nI i + 2) (mx_r h 1 0)) ∧ True) 11 rfl rfl ⟨⟨rfl, vpi hL hi hL2 (j := 1) (by decide)⟩, ⟨rfl, vpi hL hi hL2 (j := 2) (by decide)⟩, trivial⟩ ?_
    refine wp_br (P := True) (c := (mx_i h 1 (nI i + 2).toNatClampNeg) = 0) (t := 1322) (st' := [.int (mx_i h 1 (nI i + 1).toNatClampNeg), .ref 100]) rfl rfl trivial (fun c => ?_) (fun c => ?_)
    rotate_left
    · exact absurd cb c
    refine wp_steps (i' := 1323) (ls' := [some (.ref 1), some (.ref 100), some (.ref 381), some (.ref 391), some (.int (nI i)), w5, w6]) (st' := [.int 0, .int (mx_i h 1 (nI i + 1).toNatClampNeg), .ref 100]) (h' := h) (P := True) 1 rfl rfl trivial ?_
    refine wp_steps (i' := 1324) (ls' := [some (.ref 1), some (.ref 100), some (.ref 381), some (.ref 391), some (.int (nI i)), w5, w6]) (st' := [.ref 391, .int 0, .int (mx_i h 1 (nI i + 1).toNatClampNeg), .ref 100]) (h' := h) (P := True) 1 rfl rfl trivial ?_
    refine wp_call (b := false) (y' := 342) (as := [.ref 100, .int (mx_i h 1 (nI i + 1).toNatClampNeg), .int 0, .ref 391]) (rest := []) (P := True) rfl (by with_unfolding_all rfl) trivial (Nat.le_of_ble_eq_true rfl) (wr_342 G (mx_wp.mono (fun o h1 q => ?_) (wp_dm (by decide : 500 ≤ 998) (wp_S1 (wp_G (by decide +kernel) G (O (mx_i h 1 (nI i + 1).toNatClampNeg) 0 h vn vd vr vq np ns nl I))))))
    obtain ⟨s1, G1, post⟩ := q
    obtain ⟨n0, o20, h20, e0, b0, eb0, an0, r0⟩ := post h1 mdl_rfl
    refine ⟨G1, ?_⟩
    rcases ans_cases an0 with ⟨v, rfl, -, -⟩ | ⟨kx, rfl, -, q⟩
    · show mx_wp 1000 346 1325 [some (.ref 1), some (.ref 100), some (.ref 381), some (.ref 391), some (.int (nI i)), w5, w6] [.int 0] (mx_wl h1 391 0 v.toInt64) Qf
      refine step _ h1 _ 0 G1 s1 post mdl_wl (fun b t a => ⟨a.1, fun _ => ?_⟩)
      have hvb : v = b := a.2
      rw [wl_at, hvb]; exact lgc _
    · refine ⟨code kx, hcs kx q, ?_⟩
      show mx_wp 1000 346 1325 [some (.ref 1), some (.ref 100), some (.ref 381), some (.ref 391), some (.int (nI i)), w5, w6] [.int (code kx)] h1 Qf
      exact step _ h1 _ _ G1 s1 post mdl_rfl (fun b t a => ⟨a.1, fun e => absurd e q⟩)
  · skip
    have step : ∀ (o : mxO) (h1 hm : mxH) (kk : Int32), mxG h1 → sc1 h h1 → (∀ hm, mdl h1 hm → mx_wp 500 294 0 (mx_fr 294 [.ref 381, .int (mx_i h 1 (nI i + 1).toNatClampNeg), .int 1]) [] hm (fun o2 h2 => ∃ b, o2 = .inl (some (.int b)) ∧ ansOk code o b (mx_i h2 381 0) ∧ bud h h2 ∧ GS LW h2)) → mdl h1 hm → (∀ b t, ansOk code o b t → t = kk ∧ (kk = 0 → lg_cmp (mx_l hm 391 0) b.toInt64 = 0)) → mx_wp 1000 346 1325 [some (.ref 1), some (.ref 100), some (.ref 381), some (.ref 391), some (.int (nI i)), w5, w6] [.int kk] hm Qf := by
      intro o h1 hm kk G1 s1 post hmd hk
      have sch : mx_i hm 1 = mx_i h 1 := by rw [hmd.2.2.2.1]; exact s1.1
      have hLm : mx_r hm 1 0 = L := by rw [hmd.2.2.2.2, s1.2.1]; exact hL
      have Gm : mxG hm := agr_G (P := fun _ => False) (agr_mdl hmd) G1
      refine wp_steps (i' := 1326) (ls' := [some (.ref 1), some (.ref 100), some (.ref 381), some (.ref 391), some (.int (nI i)), some (.int kk), w6]) (st' := []) (h' := hm) (P := True) 1 rfl rfl trivial ?_
      refine wp_steps (i' := 1337) (ls' := [some (.ref 1), some (.ref 100), some (.ref 381), some (.ref 391), some (.int (nI i)), some (.int kk), w6]) (st' := [.int (mx_i hm 1 (nI i + 2).toNatClampNeg), .int (mx_i hm 1 (nI i + 1).toNatClampNeg), .ref 381]) (h' := hm) (P := (1 = 1 ∧ vp_in (nI i + 1) (mx_r hm 1 0)) ∧ (1 = 1 ∧ vp_in (nI i + 2) (mx_r hm 1 0)) ∧ True) 11 rfl rfl ⟨⟨rfl, vpi hLm hi hL2 (j := 1) (by decide)⟩, ⟨rfl, vpi hLm hi hL2 (j := 2) (by decide)⟩, trivial⟩ ?_
      refine wp_br (P := True) (c := (mx_i hm 1 (nI i + 2).toNatClampNeg) = 0) (t := 1340) (st' := [.int (mx_i hm 1 (nI i + 1).toNatClampNeg), .ref 381]) rfl rfl trivial (fun c => ?_) (fun c => ?_)
      · exact absurd c (by rw [sch]; exact cb)
      refine wp_steps (i' := 1339) (ls' := [some (.ref 1), some (.ref 100), some (.ref 381), some (.ref 391), some (.int (nI i)), some (.int kk), w6]) (st' := [.int 1, .int (mx_i hm 1 (nI i + 1).toNatClampNeg), .ref 381]) (h' := hm) (P := True) 1 rfl rfl trivial ?_
      refine wp_J (j := 1341) (st' := [.int 1, .int (mx_i hm 1 (nI i + 1).toNatClampNeg), .ref 381]) rfl rfl ?_
      rw [sch]
      refine wp_call (b := false) (y' := 294) (as := [.ref 381, .int (mx_i h 1 (nI i + 1).toNatClampNeg), .int 1]) (rest := []) (P := ((mxT 381).1 = mxRc 294 ∧ mxG hm)) rfl (by with_unfolding_all rfl) ⟨congrArg Prod.fst sT_381, Gm⟩ (Nat.le_of_ble_eq_true rfl) (mx_wp.mono (fun o2 h2 q => ?_) (wp_dm (by decide : 500 ≤ 999) (wp_L (by decide +kernel) Gm (wp_S1 (post hm hmd)))))
      obtain ⟨ql, s2, b, rfl, an, bd, g2⟩ := q
      obtain ⟨et, el⟩ := hk b _ an
      have G2 := GS_G g2
      show mx_wp 1000 346 1342 [some (.ref 1), some (.ref 100), some (.ref 381), some (.ref 391), some (.int (nI i)), some (.int kk), w6] [.int b] h2 Qf
      refine wp_steps (i' := 1344) (ls' := [some (.ref 1), some (.ref 100), some (.ref 381), some (.ref 391), some (.int (nI i)), some (.int kk), some (.int b)]) (st' := [.ref 381]) (h' := h2) (P := True) 2 rfl rfl trivial ?_
      refine wp_call (b := false) (y' := 190) (as := [.ref 381]) (rest := []) (P := ((mxT 381).1 = mxRc 190 ∧ mxG h2)) rfl (by with_unfolding_all rfl) ⟨congrArg Prod.fst sT_381, G2⟩ (Nat.le_of_ble_eq_true rfl) (tr_190_0 G2 ?_)
      show mx_wp 1000 346 1345 [some (.ref 1), some (.ref 100), some (.ref 381), some (.ref 391), some (.int (nI i)), some (.int kk), some (.int b)] [.int (mx_i h2 381 0)] h2 Qf
      rw [et]
      refine wp_steps (i' := 1346) (ls' := [some (.ref 1), some (.ref 100), some (.ref 381), some (.ref 391), some (.int (nI i)), some (.int kk), some (.int b)]) (st' := [.int kk, .int kk]) (h' := h2) (P := True) 1 rfl rfl trivial ?_
      refine wp_br (P := True) (c := kk = kk) (t := 1349) (st' := []) rfl rfl trivial (fun _ => ?_) (fun c => absurd rfl c)
      refine wp_steps (i' := 1350) (ls' := [some (.ref 1), some (.ref 100), some (.ref 381), some (.ref 391), some (.int (nI i)), some (.int kk), some (.int b)]) (st' := [.int kk]) (h' := h2) (P := True) 1 rfl rfl trivial ?_
      refine wp_br (P := True) (c := ¬ kk = 0) (t := 1360) (st' := []) rfl rfl trivial (fun _ => ?_) (fun c => ?_)
      · refine wp_J (j := 1565) (st' := []) rfl rfl ?_
        exact K h2 _ _ g2 bd (sc1_tr s1 (sc1_tr (sc1_mdl hmd) s2))
      · have c0 := el (Decidable.of_not_not c)
        rw [← ql] at c0
        refine wp_steps (i' := 1357) (ls' := [some (.ref 1), some (.ref 100), some (.ref 381), some (.ref 391), some (.int (nI i)), some (.int kk), some (.int b)]) (st' := [.int (lg_cmp (mx_l h2 391 0) b.toInt64)]) (h' := h2) (P := (((mxT 391).1 = 52 ∧ mxG h2) ∧ vp_in 0 (mxT 391).2) ∧ True) 6 rfl rfl ⟨cA sT_391 G2 (vpl rfl), trivial⟩ ?_
        refine wp_br (P := True) (c := lg_cmp (mx_l h2 391 0) b.toInt64 = 0) (t := 1360) (st' := []) rfl rfl trivial (fun _ => ?_) (fun c => absurd c0 c)
        refine wp_J (j := 1565) (st' := []) rfl rfl ?_
        exact K h2 _ _ g2 bd (sc1_tr s1 (sc1_tr (sc1_mdl hmd) s2))
    refine wp_steps (i' := 1319) (ls' := [some (.ref 1), some (.ref 100), some (.ref 381), some (.ref 391), some (.int (nI i)), w5, w6]) (st' := [.int (mx_i h 1 (nI i + 2).toNatClampNeg), .int (mx_i h 1 (nI i + 1).toNatClampNeg), .ref 100]) (h' := h) (P := (1 = 1 ∧ vp_in (nI i + 1) (mx_r h 1 0)) ∧ (1 = 1 ∧ vp_in (nI i + 2) (mx_r h 1 0)) ∧ True) 11 rfl rfl ⟨⟨rfl, vpi hL hi hL2 (j := 1) (by decide)⟩, ⟨rfl, vpi hL hi hL2 (j := 2) (by decide)⟩, trivial⟩ ?_
    refine wp_br (P := True) (c := (mx_i h 1 (nI i + 2).toNatClampNeg) = 0) (t := 1322) (st' := [.int (mx_i h 1 (nI i + 1).toNatClampNeg), .ref 100]) rfl rfl trivial (fun c => ?_) (fun c => ?_)
    · exact absurd c cb
    refine wp_steps (i' := 1321) (ls' := [some (.ref 1), some (.ref 100), some (.ref 381), some (.ref 391), some (.int (nI i)), w5, w6]) (st' := [.int 1, .int (mx_i h 1 (nI i + 1).toNatClampNeg), .ref 100]) (h' := h) (P := True) 1 rfl rfl trivial ?_
    refine wp_J (j := 1323) (st' := [.int 1, .int (mx_i h 1 (nI i + 1).toNatClampNeg), .ref 100]) rfl rfl ?_
    refine wp_steps (i' := 1324) (ls' := [some (.ref 1), some (.ref 100), some (.ref 381), some (.ref 391), some (.int (nI i)), w5, w6]) (st' := [.ref 391, .int 1, .int (mx_i h 1 (nI i + 1).toNatClampNeg), .ref 100]) (h' := h) (P := True) 1 rfl rfl trivial ?_
    refine wp_call (b := false) (y' := 342) (as := [.ref 100, .int (mx_i h 1 (nI i + 1).toNatClampNeg), .int 1, .ref 391]) (rest := []) (P := True) rfl (by with_unfolding_all rfl) trivial (Nat.le_of_ble_eq_true rfl) (wr_342 G (mx_wp.mono (fun o h1 q => ?_) (wp_dm (by decide : 500 ≤ 998) (wp_S1 (wp_G (by decide +kernel) G (O (mx_i h 1 (nI i + 1).toNatClampNeg) 1 h vn vd vr vq np ns nl I))))))
    obtain ⟨s1, G1, post⟩ := q
    obtain ⟨n0, o20, h20, e0, b0, eb0, an0, r0⟩ := post h1 mdl_rfl
    refine ⟨G1, ?_⟩
    rcases ans_cases an0 with ⟨v, rfl, -, -⟩ | ⟨kx, rfl, -, q⟩
    · show mx_wp 1000 346 1325 [some (.ref 1), some (.ref 100), some (.ref 381), some (.ref 391), some (.int (nI i)), w5, w6] [.int 0] (mx_wl h1 391 0 v.toInt64) Qf
      refine step _ h1 _ 0 G1 s1 post mdl_wl (fun b t a => ⟨a.1, fun _ => ?_⟩)
      have hvb : v = b := a.2
      rw [wl_at, hvb]; exact lgc _
    · refine ⟨code kx, hcs kx q, ?_⟩
      show mx_wp 1000 346 1325 [some (.ref 1), some (.ref 100), some (.ref 381), some (.ref 391), some (.int (nI i)), w5, w6] [.int (code kx)] h1 Qf
      exact step _ h1 _ _ G1 s1 post mdl_rfl (fun b t a => ⟨a.1, fun e => absurd e q⟩)
set_option maxRecDepth 8000 in
theorem cs_38 {LW : mxLW} {h : mxH} {i L : Nat} {w5 w6 : Option Value} {Qf : mxO → mxH → Prop} {code : Nat → Int32} (O : ∀ x0 x1 : Int32, Op LW 174 295 [.int x0, .int x1] code) (hcs : ∀ k, code k ≠ 0 → (k, code k) ∈ ([(0, 1)] : List (Nat × Int32))) (g : GS LW h) (hL : mx_r h 1 0 = L) (hi : i + 6 ≤ L) (hL2 : L ≤ 3072) (K : ∀ (h2 : mxH) (w5 w6 : Option Value), GS LW h2 → bud h h2 → sc1 h h2 → mx_wp 1000 346 1565 [some (.ref 1), some (.ref 100), some (.ref 381), some (.ref 391), some (.int (nI i)), w5, w6] [] h2 Qf) : mx_wp 1000 346 1361 [some (.ref 1), some (.ref 100), some (.ref 381), some (.ref 391), some (.int (nI i)), w5, w6] [] h Qf := by
  have G := GS_G g
  obtain ⟨vn, vd, vr, vq, np, ns, nl, I⟩ := g
  by_cases cb : (mx_i h 1 (nI i + 2).toNatClampNeg) = 0
  · skip
    have step : ∀ (o : mxO) (h1 hm : mxH) (kk : Int32), mxG h1 → sc1 h h1 → (∀ hm, mdl h1 hm → mx_wp 500 295 0 (mx_fr 295 [.ref 381, .int (mx_i h 1 (nI i + 1).toNatClampNeg), .int 0]) [] hm (fun o2 h2 => ∃ b, o2 = .inl (some (.int b)) ∧ ansOk code o b (mx_i h2 381 0) ∧ bud h h2 ∧ GS LW h2)) → mdl h1 hm → (∀ b t, ansOk code o b t → t = kk ∧ (kk = 0 → lg_cmp (mx_l hm 391 0) b.toInt64 = 0)) → mx_wp 1000 346 1378 [some (.ref 1), some (.ref 100), some (.ref 381), some (.ref 391), some (.int (nI i)), w5, w6] [.int kk] hm Qf := by
      intro o h1 hm kk G1 s1 post hmd hk
      have sch : mx_i hm 1 = mx_i h 1 := by rw [hmd.2.2.2.1]; exact s1.1
      have hLm : mx_r hm 1 0 = L := by rw [hmd.2.2.2.2, s1.2.1]; exact hL
      have Gm : mxG hm := agr_G (P := fun _ => False) (agr_mdl hmd) G1
      refine wp_steps (i' := 1379) (ls' := [some (.ref 1), some (.ref 100), some (.ref 381), some (.ref 391), some (.int (nI i)), some (.int kk), w6]) (st' := []) (h' := hm) (P := True) 1 rfl rfl trivial ?_
      refine wp_steps (i' := 1390) (ls' := [some (.ref 1), some (.ref 100), some (.ref 381), some (.ref 391), some (.int (nI i)), some (.int kk), w6]) (st' := [.int (mx_i hm 1 (nI i + 2).toNatClampNeg), .int (mx_i hm 1 (nI i + 1).toNatClampNeg), .ref 381]) (h' := hm) (P := (1 = 1 ∧ vp_in (nI i + 1) (mx_r hm 1 0)) ∧ (1 = 1 ∧ vp_in (nI i + 2) (mx_r hm 1 0)) ∧ True) 11 rfl rfl ⟨⟨rfl, vpi hLm hi hL2 (j := 1) (by decide)⟩, ⟨rfl, vpi hLm hi hL2 (j := 2) (by decide)⟩, trivial⟩ ?_
      refine wp_br (P := True) (c := (mx_i hm 1 (nI i + 2).toNatClampNeg) = 0) (t := 1393) (st' := [.int (mx_i hm 1 (nI i + 1).toNatClampNeg), .ref 381]) rfl rfl trivial (fun c => ?_) (fun c => ?_)
      rotate_left
      · exact absurd (by rw [sch]; exact cb) c
      refine wp_steps (i' := 1394) (ls' := [some (.ref 1), some (.ref 100), some (.ref 381), some (.ref 391), some (.int (nI i)), some (.int kk), w6]) (st' := [.int 0, .int (mx_i hm 1 (nI i + 1).toNatClampNeg), .ref 381]) (h' := hm) (P := True) 1 rfl rfl trivial ?_
      rw [sch]
      refine wp_call (b := false) (y' := 295) (as := [.ref 381, .int (mx_i h 1 (nI i + 1).toNatClampNeg), .int 0]) (rest := []) (P := ((mxT 381).1 = mxRc 295 ∧ mxG hm)) rfl (by with_unfolding_all rfl) ⟨congrArg Prod.fst sT_381, Gm⟩ (Nat.le_of_ble_eq_true rfl) (mx_wp.mono (fun o2 h2 q => ?_) (wp_dm (by decide : 500 ≤ 999) (wp_L (by decide +kernel) Gm (wp_S1 (post hm hmd)))))
      obtain ⟨ql, s2, b, rfl, an, bd, g2⟩ := q
      obtain ⟨et, el⟩ := hk b _ an
      have G2 := GS_G g2
      show mx_wp 1000 346 1395 [some (.ref 1), some (.ref 100), some (.ref 381), some (.ref 391), some (.int (nI i)), some (.int kk), w6] [.int b] h2 Qf
      refine wp_steps (i' := 1397) (ls' := [some (.ref 1), some (.ref 100), some (.ref 381), some (.ref 391), some (.int (nI i)), some (.int kk), some (.int b)]) (st' := [.ref 381]) (h' := h2) (P := True) 2 rfl rfl trivial ?_
      refine wp_call (b := false) (y' := 190) (as := [.ref 381]) (rest := []) (P := ((mxT 381).1 = mxRc 190 ∧ mxG h2)) rfl (by with_unfolding_all rfl) ⟨congrArg Prod.fst sT_381, G2⟩ (Nat.le_of_ble_eq_true rfl) (tr_190_0 G2 ?_)
      show mx_wp 1000 346 1398 [some (.ref 1), some (.ref 100), some (.ref 381), some (.ref 391), some (.int (nI i)), some (.int kk), some (.int b)] [.int (mx_i h2 381 0)] h2 Qf
      rw [et]
      refine wp_steps (i' := 1399) (ls' := [some (.ref 1), some (.ref 100), some (.ref 381), some (.ref 391), some (.int (nI i)), some (.int kk), some (.int b)]) (st' := [.int kk, .int kk]) (h' := h2) (P := True) 1 rfl rfl trivial ?_
      refine wp_br (P := True) (c := kk = kk) (t := 1402) (st' := []) rfl rfl trivial (fun _ => ?_) (fun c => absurd rfl c)
      refine wp_steps (i' := 1403) (ls' := [some (.ref 1), some (.ref 100), some (.ref 381), some (.ref 391), some (.int (nI i)), some (.int kk), some (.int b)]) (st' := [.int kk]) (h' := h2) (P := True) 1 rfl rfl trivial ?_
      refine wp_br (P := True) (c := ¬ kk = 0) (t := 1413) (st' := []) rfl rfl trivial (fun _ => ?_) (fun c => ?_)
      · refine wp_J (j := 1565) (st' := []) rfl rfl ?_
        exact K h2 _ _ g2 bd (sc1_tr s1 (sc1_tr (sc1_mdl hmd) s2))
      · have c0 := el (Decidable.of_not_not c)
        rw [← ql] at c0
        refine wp_steps (i' := 1410) (ls' := [some (.ref 1), some (.ref 100), some (.ref 381), some (.ref 391), some (.int (nI i)), some (.int kk), some (.int b)]) (st' := [.int (lg_cmp (mx_l h2 391 0) b.toInt64)]) (h' := h2) (P := (((mxT 391).1 = 52 ∧ mxG h2) ∧ vp_in 0 (mxT 391).2) ∧ True) 6 rfl rfl ⟨cA sT_391 G2 (vpl rfl), trivial⟩ ?_
        refine wp_br (P := True) (c := lg_cmp (mx_l h2 391 0) b.toInt64 = 0) (t := 1413) (st' := []) rfl rfl trivial (fun _ => ?_) (fun c => absurd c0 c)
        refine wp_J (j := 1565) (st' := []) rfl rfl ?_
        exact K h2 _ _ g2 bd (sc1_tr s1 (sc1_tr (sc1_mdl hmd) s2))
    refine wp_steps (i' := 1372) (ls' := [some (.ref 1), some (.ref 100), some (.ref 381), some (.ref 391), some (.int (nI i)), w5, w6]) (st' := [.int (mx_i h 1 (nI i + 2).toNatClampNeg), .int (mx_i h 1 (nI i + 1).toNatClampNeg), .ref 100]) (h' := h) (P := (1 = 1 ∧ vp_in (nI i + 1) (mx_r h 1 0)) ∧ (1 = 1 ∧ vp_in (nI i + 2) (mx_r h 1 0)) ∧ True) 11 rfl rfl ⟨⟨rfl, vpi hL hi hL2 (j := 1) (by decide)⟩, ⟨rfl, vpi hL hi hL2 (j := 2) (by decide)⟩, trivial⟩ ?_
    refine wp_br (P := True) (c := (mx_i h 1 (nI i + 2).toNatClampNeg) = 0) (t := 1375) (st' := [.int (mx_i h 1 (nI i + 1).toNatClampNeg), .ref 100]) rfl rfl trivial (fun c => ?_) (fun c => ?_)
    rotate_left
    · exact absurd cb c
    refine wp_steps (i' := 1376) (ls' := [some (.ref 1), some (.ref 100), some (.ref 381), some (.ref 391), some (.int (nI i)), w5, w6]) (st' := [.int 0, .int (mx_i h 1 (nI i + 1).toNatClampNeg), .ref 100]) (h' := h) (P := True) 1 rfl rfl trivial ?_
    refine wp_steps (i' := 1377) (ls' := [some (.ref 1), some (.ref 100), some (.ref 381), some (.ref 391), some (.int (nI i)), w5, w6]) (st' := [.ref 391, .int 0, .int (mx_i h 1 (nI i + 1).toNatClampNeg), .ref 100]) (h' := h) (P := True) 1 rfl rfl trivial ?_
    refine wp_call (b := false) (y' := 343) (as := [.ref 100, .int (mx_i h 1 (nI i + 1).toNatClampNeg), .int 0, .ref 391]) (rest := []) (P := True) rfl (by with_unfolding_all rfl) trivial (Nat.le_of_ble_eq_true rfl) (wr_343 G (mx_wp.mono (fun o h1 q => ?_) (wp_dm (by decide : 500 ≤ 998) (wp_S1 (wp_G (by decide +kernel) G (O (mx_i h 1 (nI i + 1).toNatClampNeg) 0 h vn vd vr vq np ns nl I))))))
    obtain ⟨s1, G1, post⟩ := q
    obtain ⟨n0, o20, h20, e0, b0, eb0, an0, r0⟩ := post h1 mdl_rfl
    refine ⟨G1, ?_⟩
    rcases ans_cases an0 with ⟨v, rfl, -, -⟩ | ⟨kx, rfl, -, q⟩
    · show mx_wp 1000 346 1378 [some (.ref 1), some (.ref 100), some (.ref 381), some (.ref 391), some (.int (nI i)), w5, w6] [.int 0] (mx_wl h1 391 0 v.toInt64) Qf
      refine step _ h1 _ 0 G1 s1 post mdl_wl (fun b t a => ⟨a.1, fun _ => ?_⟩)
      have hvb : v = b := a.2
      rw [wl_at, hvb]; exact lgc _
    · refine ⟨code kx, hcs kx q, ?_⟩
      show mx_wp 1000 346 1378 [some (.ref 1), some (.ref 100), some (.ref 381), some (.ref 391), some (.int (nI i)), w5, w6] [.int (code kx)] h1 Qf
      exact step _ h1 _ _ G1 s1 post mdl_rfl (fun b t a => ⟨a.1, fun e => absurd e q⟩)
  · skip
    have step : ∀ (o : mxO) (h1 hm : mxH) (kk : Int32), mxG h1 → sc1 h h1 → (∀ hm, mdl h1 hm → mx_wp 500 295 0 (mx_fr 295 [.ref 381, .int (mx_i h 1 (nI i + 1).toNatClampNeg), .int 1]) [] hm (fun o2 h2 => ∃ b, o2 = .inl (some (.int b)) ∧ ansOk code o b (mx_i h2 381 0) ∧ bud h h2 ∧ GS LW h2)) → mdl h1 hm → (∀ b t, ansOk code o b t → t = kk ∧ (kk = 0 → lg_cmp (mx_l hm 391 0) b.toInt64 = 0)) → mx_wp 1000 346 1378 [some (.ref 1), some (.ref 100), some (.ref 381), some (.ref 391), some (.int (nI i)), w5, w6] [.int kk] hm Qf := by
      intro o h1 hm kk G1 s1 post hmd hk
      have sch : mx_i hm 1 = mx_i h 1 := by rw [hmd.2.2.2.1]; exact s1.1
      have hLm : mx_r hm 1 0 = L := by rw [hmd.2.2.2.2, s1.2.1]; exact hL
      have Gm : mxG hm := agr_G (P := fun _ => False) (agr_mdl hmd) G1
      refine wp_steps (i' := 1379) (ls' := [some (.ref 1), some (.ref 100), some (.ref 381), some (.ref 391), some (.int (nI i)), some (.int kk), w6]) (st' := []) (h' := hm) (P := True) 1 rfl rfl trivial ?_
      refine wp_steps (i' := 1390) (ls' := [some (.ref 1), some (.ref 100), some (.ref 381), some (.ref 391), some (.int (nI i)), some (.int kk), w6]) (st' := [.int (mx_i hm 1 (nI i + 2).toNatClampNeg), .int (mx_i hm 1 (nI i + 1).toNatClampNeg), .ref 381]) (h' := hm) (P := (1 = 1 ∧ vp_in (nI i + 1) (mx_r hm 1 0)) ∧ (1 = 1 ∧ vp_in (nI i + 2) (mx_r hm 1 0)) ∧ True) 11 rfl rfl ⟨⟨rfl, vpi hLm hi hL2 (j := 1) (by decide)⟩, ⟨rfl, vpi hLm hi hL2 (j := 2) (by decide)⟩, trivial⟩ ?_
      refine wp_br (P := True) (c := (mx_i hm 1 (nI i + 2).toNatClampNeg) = 0) (t := 1393) (st' := [.int (mx_i hm 1 (nI i + 1).toNatClampNeg), .ref 381]) rfl rfl trivial (fun c => ?_) (fun c => ?_)
      · exact absurd c (by rw [sch]; exact cb)
      refine wp_steps (i' := 1392) (ls' := [some (.ref 1), some (.ref 100), some (.ref 381), some (.ref 391), some (.int (nI i)), some (.int kk), w6]) (st' := [.int 1, .int (mx_i hm 1 (nI i + 1).toNatClampNeg), .ref 381]) (h' := hm) (P := True) 1 rfl rfl trivial ?_
      refine wp_J (j := 1394) (st' := [.int 1, .int (mx_i hm 1 (nI i + 1).toNatClampNeg), .ref 381]) rfl rfl ?_
      rw [sch]
      refine wp_call (b := false) (y' := 295) (as := [.ref 381, .int (mx_i h 1 (nI i + 1).toNatClampNeg), .int 1]) (rest := []) (P := ((mxT 381).1 = mxRc 295 ∧ mxG hm)) rfl (by with_unfolding_all rfl) ⟨congrArg Prod.fst sT_381, Gm⟩ (Nat.le_of_ble_eq_true rfl) (mx_wp.mono (fun o2 h2 q => ?_) (wp_dm (by decide : 500 ≤ 999) (wp_L (by decide +kernel) Gm (wp_S1 (post hm hmd)))))
      obtain ⟨ql, s2, b, rfl, an, bd, g2⟩ := q
      obtain ⟨et, el⟩ := hk b _ an
      have G2 := GS_G g2
      show mx_wp 1000 346 1395 [some (.ref 1), some (.ref 100), some (.ref 381), some (.ref 391), some (.int (nI i)), some (.int kk), w6] [.int b] h2 Qf
      refine wp_steps (i' := 1397) (ls' := [some (.ref 1), some (.ref 100), some (.ref 381), some (.ref 391), some (.int (nI i)), some (.int kk), some (.int b)]) (st' := [.ref 381]) (h' := h2) (P := True) 2 rfl rfl trivial ?_
      refine wp_call (b := false) (y' := 190) (as := [.ref 381]) (rest := []) (P := ((mxT 381).1 = mxRc 190 ∧ mxG h2)) rfl (by with_unfolding_all rfl) ⟨congrArg Prod.fst sT_381, G2⟩ (Nat.le_of_ble_eq_true rfl) (tr_190_0 G2 ?_)
      show mx_wp 1000 346 1398 [some (.ref 1), some (.ref 100), some (.ref 381), some (.ref 391), some (.int (nI i)), some (.int kk), some (.int b)] [.int (mx_i h2 381 0)] h2 Qf
      rw [et]
      refine wp_steps (i' := 1399) (ls' := [some (.ref 1), some (.ref 100), some (.ref 381), some (.ref 391), some (.int (nI i)), some (.int kk), some (.int b)]) (st' := [.int kk, .int kk]) (h' := h2) (P := True) 1 rfl rfl trivial ?_
      refine wp_br (P := True) (c := kk = kk) (t := 1402) (st' := []) rfl rfl trivial (fun _ => ?_) (fun c => absurd rfl c)
      refine wp_steps (i' := 1403) (ls' := [some (.ref 1), some (.ref 100), some (.ref 381), some (.ref 391), some (.int (nI i)), some (.int kk), some (.int b)]) (st' := [.int kk]) (h' := h2) (P := True) 1 rfl rfl trivial ?_
      refine wp_br (P := True) (c := ¬ kk = 0) (t := 1413) (st' := []) rfl rfl trivial (fun _ => ?_) (fun c => ?_)
      · refine wp_J (j := 1565) (st' := []) rfl rfl ?_
        exact K h2 _ _ g2 bd (sc1_tr s1 (sc1_tr (sc1_mdl hmd) s2))
      · have c0 := el (Decidable.of_not_not c)
        rw [← ql] at c0
        refine wp_steps (i' := 1410) (ls' := [some (.ref 1), some (.ref 100), some (.ref 381), some (.ref 391), some (.int (nI i)), some (.int kk), some (.int b)]) (st' := [.int (lg_cmp (mx_l h2 391 0) b.toInt64)]) (h' := h2) (P := (((mxT 391).1 = 52 ∧ mxG h2) ∧ vp_in 0 (mxT 391).2) ∧ True) 6 rfl rfl ⟨cA sT_391 G2 (vpl rfl), trivial⟩ ?_
        refine wp_br (P := True) (c := lg_cmp (mx_l h2 391 0) b.toInt64 = 0) (t := 1413) (st' := []) rfl rfl trivial (fun _ => ?_) (fun c => absurd c0 c)
        refine wp_J (j := 1565) (st' := []) rfl rfl ?_
        exact K h2 _ _ g2 bd (sc1_tr s1 (sc1_tr (sc1_mdl hmd) s2))
    refine wp_steps (i' := 1372) (ls' := [some (.ref 1), some (.ref 100), some (.ref 381), some (.ref 391), some (.int (nI i)), w5, w6]) (st' := [.int (mx_i h 1 (nI i + 2).toNatClampNeg), .int (mx_i h 1 (nI i + 1).toNatClampNeg), .ref 100]) (h' := h) (P := (1 = 1 ∧ vp_in (nI i + 1) (mx_r h 1 0)) ∧ (1 = 1 ∧ vp_in (nI i + 2) (mx_r h 1 0)) ∧ True) 11 rfl rfl ⟨⟨rfl, vpi hL hi hL2 (j := 1) (by decide)⟩, ⟨rfl, vpi hL hi hL2 (j := 2) (by decide)⟩, trivial⟩ ?_
    refine wp_br (P := True) (c := (mx_i h 1 (nI i + 2).toNatClampNeg) = 0) (t := 1375) (st' := [.int (mx_i h 1 (nI i + 1).toNatClampNeg), .ref 100]) rfl rfl trivial (fun c => ?_) (fun c => ?_)
    · exact absurd c cb
    refine wp_steps (i' := 1374) (ls' := [some (.ref 1), some (.ref 100), some (.ref 381), some (.ref 391), some (.int (nI i)), w5, w6]) (st' := [.int 1, .int (mx_i h 1 (nI i + 1).toNatClampNeg), .ref 100]) (h' := h) (P := True) 1 rfl rfl trivial ?_
    refine wp_J (j := 1376) (st' := [.int 1, .int (mx_i h 1 (nI i + 1).toNatClampNeg), .ref 100]) rfl rfl ?_
    refine wp_steps (i' := 1377) (ls' := [some (.ref 1), some (.ref 100), some (.ref 381), some (.ref 391), some (.int (nI i)), w5, w6]) (st' := [.ref 391, .int 1, .int (mx_i h 1 (nI i + 1).toNatClampNeg), .ref 100]) (h' := h) (P := True) 1 rfl rfl trivial ?_
    refine wp_call (b := false) (y' := 343) (as := [.ref 100, .int (mx_i h 1 (nI i + 1).toNatClampNeg), .int 1, .ref 391]) (rest := []) (P := True) rfl (by with_unfolding_all rfl) trivial (Nat.le_of_ble_eq_true rfl) (wr_343 G (mx_wp.mono (fun o h1 q => ?_) (wp_dm (by decide : 500 ≤ 998) (wp_S1 (wp_G (by decide +kernel) G (O (mx_i h 1 (nI i + 1).toNatClampNeg) 1 h vn vd vr vq np ns nl I))))))
    obtain ⟨s1, G1, post⟩ := q
    obtain ⟨n0, o20, h20, e0, b0, eb0, an0, r0⟩ := post h1 mdl_rfl
    refine ⟨G1, ?_⟩
    rcases ans_cases an0 with ⟨v, rfl, -, -⟩ | ⟨kx, rfl, -, q⟩
    · show mx_wp 1000 346 1378 [some (.ref 1), some (.ref 100), some (.ref 381), some (.ref 391), some (.int (nI i)), w5, w6] [.int 0] (mx_wl h1 391 0 v.toInt64) Qf
      refine step _ h1 _ 0 G1 s1 post mdl_wl (fun b t a => ⟨a.1, fun _ => ?_⟩)
      have hvb : v = b := a.2
      rw [wl_at, hvb]; exact lgc _
    · refine ⟨code kx, hcs kx q, ?_⟩
      show mx_wp 1000 346 1378 [some (.ref 1), some (.ref 100), some (.ref 381), some (.ref 391), some (.int (nI i)), w5, w6] [.int (code kx)] h1 Qf
      exact step _ h1 _ _ G1 s1 post mdl_rfl (fun b t a => ⟨a.1, fun e => absurd e q⟩)
set_option maxRecDepth 8000 in
theorem cs_39 {LW : mxLW} {h : mxH} {i L : Nat} {w5 w6 : Option Value} {Qf : mxO → mxH → Prop} {code : Nat → Int32} (O : ∀ x0 x1 : Int32, Op LW 177 297 [.int x0, .int x1] code) (hcs : ∀ k, code k ≠ 0 → (k, code k) ∈ ([(2, 1)] : List (Nat × Int32))) (g : GS LW h) (hL : mx_r h 1 0 = L) (hi : i + 6 ≤ L) (hL2 : L ≤ 3072) (K : ∀ (h2 : mxH) (w5 w6 : Option Value), GS LW h2 → bud h h2 → sc1 h h2 → mx_wp 1000 346 1565 [some (.ref 1), some (.ref 100), some (.ref 381), some (.ref 391), some (.int (nI i)), w5, w6] [] h2 Qf) : mx_wp 1000 346 1414 [some (.ref 1), some (.ref 100), some (.ref 381), some (.ref 391), some (.int (nI i)), w5, w6] [] h Qf := by
  have G := GS_G g
  obtain ⟨vn, vd, vr, vq, np, ns, nl, I⟩ := g
  by_cases cb : (mx_i h 1 (nI i + 2).toNatClampNeg) = 0
  · skip
    have step : ∀ (o : mxO) (h1 hm : mxH) (kk : Int32), mxG h1 → sc1 h h1 → (∀ hm, mdl h1 hm → mx_wp 500 297 0 (mx_fr 297 [.ref 381, .int (mx_i h 1 (nI i + 1).toNatClampNeg), .int 0]) [] hm (fun o2 h2 => ∃ b, o2 = .inl (some (.int b)) ∧ ansOk code o b (mx_i h2 381 0) ∧ bud h h2 ∧ GS LW h2)) → mdl h1 hm → (∀ b t, ansOk code o b t → t = kk ∧ (kk = 0 → lg_cmp (mx_l hm 391 0) b.toInt64 = 0)) → mx_wp 1000 346 1431 [some (.ref 1), some (.ref 100), some (.ref 381), some (.ref 391), some (.int (nI i)), w5, w6] [.int kk] hm Qf := by
      intro o h1 hm kk G1 s1 post hmd hk
      have sch : mx_i hm 1 = mx_i h 1 := by rw [hmd.2.2.2.1]; exact s1.1
      have hLm : mx_r hm 1 0 = L := by rw [hmd.2.2.2.2, s1.2.1]; exact hL
      have Gm : mxG hm := agr_G (P := fun _ => False) (agr_mdl hmd) G1
      refine wp_steps (i' := 1432) (ls' := [some (.ref 1), some (.ref 100), some (.ref 381), some (.ref 391), some (.int (nI i)), some (.int kk), w6]) (st' := []) (h' := hm) (P := True) 1 rfl rfl trivial ?_
      refine wp_steps (i' := 1443) (ls' := [some (.ref 1), some (.ref 100), some (.ref 381), some (.ref 391), some (.int (nI i)), some (.int kk), w6]) (st' := [.int (mx_i hm 1 (nI i + 2).toNatClampNeg), .int (mx_i hm 1 (nI i + 1).toNatClampNeg), .ref 381]) (h' := hm) (P := (1 = 1 ∧ vp_in (nI i + 1) (mx_r hm 1 0)) ∧ (1 = 1 ∧ vp_in (nI i + 2) (mx_r hm 1 0)) ∧ True) 11 rfl rfl ⟨⟨rfl, vpi hLm hi hL2 (j := 1) (by decide)⟩, ⟨rfl, vpi hLm hi hL2 (j := 2) (by decide)⟩, trivial⟩ ?_
      refine wp_br (P := True) (c := (mx_i hm 1 (nI i + 2).toNatClampNeg) = 0) (t := 1446) (st' := [.int (mx_i hm 1 (nI i + 1).toNatClampNeg), .ref 381]) rfl rfl trivial (fun c => ?_) (fun c => ?_)
      rotate_left
      · exact absurd (by rw [sch]; exact cb) c
      refine wp_steps (i' := 1447) (ls' := [some (.ref 1), some (.ref 100), some (.ref 381), some (.ref 391), some (.int (nI i)), some (.int kk), w6]) (st' := [.int 0, .int (mx_i hm 1 (nI i + 1).toNatClampNeg), .ref 381]) (h' := hm) (P := True) 1 rfl rfl trivial ?_
      rw [sch]
      refine wp_call (b := false) (y' := 297) (as := [.ref 381, .int (mx_i h 1 (nI i + 1).toNatClampNeg), .int 0]) (rest := []) (P := ((mxT 381).1 = mxRc 297 ∧ mxG hm)) rfl (by with_unfolding_all rfl) ⟨congrArg Prod.fst sT_381, Gm⟩ (Nat.le_of_ble_eq_true rfl) (mx_wp.mono (fun o2 h2 q => ?_) (wp_dm (by decide : 500 ≤ 999) (wp_L (by decide +kernel) Gm (wp_S1 (post hm hmd)))))
      obtain ⟨ql, s2, b, rfl, an, bd, g2⟩ := q
      obtain ⟨et, el⟩ := hk b _ an
      have G2 := GS_G g2
      show mx_wp 1000 346 1448 [some (.ref 1), some (.ref 100), some (.ref 381), some (.ref 391), some (.int (nI i)), some (.int kk), w6] [.int b] h2 Qf
      refine wp_steps (i' := 1450) (ls' := [some (.ref 1), some (.ref 100), some (.ref 381), some (.ref 391), some (.int (nI i)), some (.int kk), some (.int b)]) (st' := [.ref 381]) (h' := h2) (P := True) 2 rfl rfl trivial ?_
      refine wp_call (b := false) (y' := 190) (as := [.ref 381]) (rest := []) (P := ((mxT 381).1 = mxRc 190 ∧ mxG h2)) rfl (by with_unfolding_all rfl) ⟨congrArg Prod.fst sT_381, G2⟩ (Nat.le_of_ble_eq_true rfl) (tr_190_0 G2 ?_)
      show mx_wp 1000 346 1451 [some (.ref 1), some (.ref 100), some (.ref 381), some (.ref 391), some (.int (nI i)), some (.int kk), some (.int b)] [.int (mx_i h2 381 0)] h2 Qf
      rw [et]
      refine wp_steps (i' := 1452) (ls' := [some (.ref 1), some (.ref 100), some (.ref 381), some (.ref 391), some (.int (nI i)), some (.int kk), some (.int b)]) (st' := [.int kk, .int kk]) (h' := h2) (P := True) 1 rfl rfl trivial ?_
      refine wp_br (P := True) (c := kk = kk) (t := 1455) (st' := []) rfl rfl trivial (fun _ => ?_) (fun c => absurd rfl c)
      refine wp_steps (i' := 1456) (ls' := [some (.ref 1), some (.ref 100), some (.ref 381), some (.ref 391), some (.int (nI i)), some (.int kk), some (.int b)]) (st' := [.int kk]) (h' := h2) (P := True) 1 rfl rfl trivial ?_
      refine wp_br (P := True) (c := ¬ kk = 0) (t := 1466) (st' := []) rfl rfl trivial (fun _ => ?_) (fun c => ?_)
      · refine wp_J (j := 1565) (st' := []) rfl rfl ?_
        exact K h2 _ _ g2 bd (sc1_tr s1 (sc1_tr (sc1_mdl hmd) s2))
      · have c0 := el (Decidable.of_not_not c)
        rw [← ql] at c0
        refine wp_steps (i' := 1463) (ls' := [some (.ref 1), some (.ref 100), some (.ref 381), some (.ref 391), some (.int (nI i)), some (.int kk), some (.int b)]) (st' := [.int (lg_cmp (mx_l h2 391 0) b.toInt64)]) (h' := h2) (P := (((mxT 391).1 = 52 ∧ mxG h2) ∧ vp_in 0 (mxT 391).2) ∧ True) 6 rfl rfl ⟨cA sT_391 G2 (vpl rfl), trivial⟩ ?_
        refine wp_br (P := True) (c := lg_cmp (mx_l h2 391 0) b.toInt64 = 0) (t := 1466) (st' := []) rfl rfl trivial (fun _ => ?_) (fun c => absurd c0 c)
        refine wp_J (j := 1565) (st' := []) rfl rfl ?_
        exact K h2 _ _ g2 bd (sc1_tr s1 (sc1_tr (sc1_mdl hmd) s2))
    refine wp_steps (i' := 1425) (ls' := [some (.ref 1), some (.ref 100), some (.ref 381), some (.ref 391), some (.int (nI i)), w5, w6]) (st' := [.int (mx_i h 1 (nI i + 2).toNatClampNeg), .int (mx_i h 1 (nI i + 1).toNatClampNeg), .ref 100]) (h' := h) (P := (1 = 1 ∧ vp_in (nI i + 1) (mx_r h 1 0)) ∧ (1 = 1 ∧ vp_in (nI i + 2) (mx_r h 1 0)) ∧ True) 11 rfl rfl ⟨⟨rfl, vpi hL hi hL2 (j := 1) (by decide)⟩, ⟨rfl, vpi hL hi hL2 (j := 2) (by decide)⟩, trivial⟩ ?_
    refine wp_br (P := True) (c := (mx_i h 1 (nI i + 2).toNatClampNeg) = 0) (t := 1428) (st' := [.int (mx_i h 1 (nI i + 1).toNatClampNeg), .ref 100]) rfl rfl trivial (fun c => ?_) (fun c => ?_)
    rotate_left
    · exact absurd cb c
    refine wp_steps (i' := 1429) (ls' := [some (.ref 1), some (.ref 100), some (.ref 381), some (.ref 391), some (.int (nI i)), w5, w6]) (st' := [.int 0, .int (mx_i h 1 (nI i + 1).toNatClampNeg), .ref 100]) (h' := h) (P := True) 1 rfl rfl trivial ?_
    refine wp_steps (i' := 1430) (ls' := [some (.ref 1), some (.ref 100), some (.ref 381), some (.ref 391), some (.int (nI i)), w5, w6]) (st' := [.ref 391, .int 0, .int (mx_i h 1 (nI i + 1).toNatClampNeg), .ref 100]) (h' := h) (P := True) 1 rfl rfl trivial ?_
    refine wp_call (b := false) (y' := 344) (as := [.ref 100, .int (mx_i h 1 (nI i + 1).toNatClampNeg), .int 0, .ref 391]) (rest := []) (P := True) rfl (by with_unfolding_all rfl) trivial (Nat.le_of_ble_eq_true rfl) (wr_344 G (mx_wp.mono (fun o h1 q => ?_) (wp_dm (by decide : 500 ≤ 998) (wp_S1 (wp_G (by decide +kernel) G (O (mx_i h 1 (nI i + 1).toNatClampNeg) 0 h vn vd vr vq np ns nl I))))))
    obtain ⟨s1, G1, post⟩ := q
    obtain ⟨n0, o20, h20, e0, b0, eb0, an0, r0⟩ := post h1 mdl_rfl
    refine ⟨G1, ?_⟩
    rcases ans_cases an0 with ⟨v, rfl, -, -⟩ | ⟨kx, rfl, -, q⟩
    · show mx_wp 1000 346 1431 [some (.ref 1), some (.ref 100), some (.ref 381), some (.ref 391), some (.int (nI i)), w5, w6] [.int 0] (mx_wl h1 391 0 v.toInt64) Qf
      refine step _ h1 _ 0 G1 s1 post mdl_wl (fun b t a => ⟨a.1, fun _ => ?_⟩)
      have hvb : v = b := a.2
      rw [wl_at, hvb]; exact lgc _
    · refine ⟨code kx, hcs kx q, ?_⟩
      show mx_wp 1000 346 1431 [some (.ref 1), some (.ref 100), some (.ref 381), some (.ref 391), some (.int (nI i)), w5, w6] [.int (code kx)] h1 Qf
      exact step _ h1 _ _ G1 s1 post mdl_rfl (fun b t a => ⟨a.1, fun e => absurd e q⟩)
  · skip
    have step : ∀ (o : mxO) (h1 hm : mxH) (kk : Int32), mxG h1 → sc1 h h1 → (∀ hm, mdl h1 hm → mx_wp 500 297 0 (mx_fr 297 [.ref 381, .int (mx_i h 1 (nI i + 1).toNatClampNeg), .int 1]) [] hm (fun o2 h2 => ∃ b, o2 = .inl (some (.int b)) ∧ ansOk code o b (mx_i h2 381 0) ∧ bud h h2 ∧ GS LW h2)) → mdl h1 hm → (∀ b t, ansOk code o b t → t = kk ∧ (kk = 0 → lg_cmp (mx_l hm 391 0) b.toInt64 = 0)) → mx_wp 1000 346 1431 [some (.ref 1), some (.ref 100), some (.ref 381), some (.ref 391), some (.int (nI i)), w5, w6] [.int kk] hm Qf := by
      intro o h1 hm kk G1 s1 post hmd hk
      have sch : mx_i hm 1 = mx_i h 1 := by rw [hmd.2.2.2.1]; exact s1.1
      have hLm : mx_r hm 1 0 = L := by rw [hmd.2.2.2.2, s1.2.1]; exact hL
      have Gm : mxG hm := agr_G (P := fun _ => False) (agr_mdl hmd) G1
      refine wp_steps (i' := 1432) (ls' := [some (.ref 1), some (.ref 100), some (.ref 381), some (.ref 391), some (.int (nI i)), some (.int kk), w6]) (st' := []) (h' := hm) (P := True) 1 rfl rfl trivial ?_
      refine wp_steps (i' := 1443) (ls' := [some (.ref 1), some (.ref 100), some (.ref 381), some (.ref 391), some (.int (nI i)), some (.int kk), w6]) (st' := [.int (mx_i hm 1 (nI i + 2).toNatClampNeg), .int (mx_i hm 1 (nI i + 1).toNatClampNeg), .ref 381]) (h' := hm) (P := (1 = 1 ∧ vp_in (nI i + 1) (mx_r hm 1 0)) ∧ (1 = 1 ∧ vp_in (nI i + 2) (mx_r hm 1 0)) ∧ True) 11 rfl rfl ⟨⟨rfl, vpi hLm hi hL2 (j := 1) (by decide)⟩, ⟨rfl, vpi hLm hi hL2 (j := 2) (by decide)⟩, trivial⟩ ?_
      refine wp_br (P := True) (c := (mx_i hm 1 (nI i + 2).toNatClampNeg) = 0) (t := 1446) (st' := [.int (mx_i hm 1 (nI i + 1).toNatClampNeg), .ref 381]) rfl rfl trivial (fun c => ?_) (fun c => ?_)
      · exact absurd c (by rw [sch]; exact cb)
      refine wp_steps (i' := 1445) (ls' := [some (.ref 1), some (.ref 100), some (.ref 381), some (.ref 391), some (.int (nI i)), some (.int kk), w6]) (st' := [.int 1, .int (mx_i hm 1 (nI i + 1).toNatClampNeg), .ref 381]) (h' := hm) (P := True) 1 rfl rfl trivial ?_
      refine wp_J (j := 1447) (st' := [.int 1, .int (mx_i hm 1 (nI i + 1).toNatClampNeg), .ref 381]) rfl rfl ?_
      rw [sch]
      refine wp_call (b := false) (y' := 297) (as := [.ref 381, .int (mx_i h 1 (nI i + 1).toNatClampNeg), .int 1]) (rest := []) (P := ((mxT 381).1 = mxRc 297 ∧ mxG hm)) rfl (by with_unfolding_all rfl) ⟨congrArg Prod.fst sT_381, Gm⟩ (Nat.le_of_ble_eq_true rfl) (mx_wp.mono (fun o2 h2 q => ?_) (wp_dm (by decide : 500 ≤ 999) (wp_L (by decide +kernel) Gm (wp_S1 (post hm hmd)))))
      obtain ⟨ql, s2, b, rfl, an, bd, g2⟩ := q
      obtain ⟨et, el⟩ := hk b _ an
      have G2 := GS_G g2
      show mx_wp 1000 346 1448 [some (.ref 1), some (.ref 100), some (.ref 381), some (.ref 391), some (.int (nI i)), some (.int kk), w6] [.int b] h2 Qf
      refine wp_steps (i' := 1450) (ls' := [some (.ref 1), some (.ref 100), some (.ref 381), some (.ref 391), some (.int (nI i)), some (.int kk), some (.int b)]) (st' := [.ref 381]) (h' := h2) (P := True) 2 rfl rfl trivial ?_
      refine wp_call (b := false) (y' := 190) (as := [.ref 381]) (rest := []) (P := ((mxT 381).1 = mxRc 190 ∧ mxG h2)) rfl (by with_unfolding_all rfl) ⟨congrArg Prod.fst sT_381, G2⟩ (Nat.le_of_ble_eq_true rfl) (tr_190_0 G2 ?_)
      show mx_wp 1000 346 1451 [some (.ref 1), some (.ref 100), some (.ref 381), some (.ref 391), some (.int (nI i)), some (.int kk), some (.int b)] [.int (mx_i h2 381 0)] h2 Qf
      rw [et]
      refine wp_steps (i' := 1452) (ls' := [some (.ref 1), some (.ref 100), some (.ref 381), some (.ref 391), some (.int (nI i)), some (.int kk), some (.int b)]) (st' := [.int kk, .int kk]) (h' := h2) (P := True) 1 rfl rfl trivial ?_
      refine wp_br (P := True) (c := kk = kk) (t := 1455) (st' := []) rfl rfl trivial (fun _ => ?_) (fun c => absurd rfl c)
      refine wp_steps (i' := 1456) (ls' := [some (.ref 1), some (.ref 100), some (.ref 381), some (.ref 391), some (.int (nI i)), some (.int kk), some (.int b)]) (st' := [.int kk]) (h' := h2) (P := True) 1 rfl rfl trivial ?_
      refine wp_br (P := True) (c := ¬ kk = 0) (t := 1466) (st' := []) rfl rfl trivial (fun _ => ?_) (fun c => ?_)
      · refine wp_J (j := 1565) (st' := []) rfl rfl ?_
        exact K h2 _ _ g2 bd (sc1_tr s1 (sc1_tr (sc1_mdl hmd) s2))
      · have c0 := el (Decidable.of_not_not c)
        rw [← ql] at c0
        refine wp_steps (i' := 1463) (ls' := [some (.ref 1), some (.ref 100), some (.ref 381), some (.ref 391), some (.int (nI i)), some (.int kk), some (.int b)]) (st' := [.int (lg_cmp (mx_l h2 391 0) b.toInt64)]) (h' := h2) (P := (((mxT 391).1 = 52 ∧ mxG h2) ∧ vp_in 0 (mxT 391).2) ∧ True) 6 rfl rfl ⟨cA sT_391 G2 (vpl rfl), trivial⟩ ?_
        refine wp_br (P := True) (c := lg_cmp (mx_l h2 391 0) b.toInt64 = 0) (t := 1466) (st' := []) rfl rfl trivial (fun _ => ?_) (fun c => absurd c0 c)
        refine wp_J (j := 1565) (st' := []) rfl rfl ?_
        exact K h2 _ _ g2 bd (sc1_tr s1 (sc1_tr (sc1_mdl hmd) s2))
    refine wp_steps (i' := 1425) (ls' := [some (.ref 1), some (.ref 100), some (.ref 381), some (.ref 391), some (.int (nI i)), w5, w6]) (st' := [.int (mx_i h 1 (nI i + 2).toNatClampNeg), .int (mx_i h 1 (nI i + 1).toNatClampNeg), .ref 100]) (h' := h) (P := (1 = 1 ∧ vp_in (nI i + 1) (mx_r h 1 0)) ∧ (1 = 1 ∧ vp_in (nI i + 2) (mx_r h 1 0)) ∧ True) 11 rfl rfl ⟨⟨rfl, vpi hL hi hL2 (j := 1) (by decide)⟩, ⟨rfl, vpi hL hi hL2 (j := 2) (by decide)⟩, trivial⟩ ?_
    refine wp_br (P := True) (c := (mx_i h 1 (nI i + 2).toNatClampNeg) = 0) (t := 1428) (st' := [.int (mx_i h 1 (nI i + 1).toNatClampNeg), .ref 100]) rfl rfl trivial (fun c => ?_) (fun c => ?_)
    · exact absurd c cb
    refine wp_steps (i' := 1427) (ls' := [some (.ref 1), some (.ref 100), some (.ref 381), some (.ref 391), some (.int (nI i)), w5, w6]) (st' := [.int 1, .int (mx_i h 1 (nI i + 1).toNatClampNeg), .ref 100]) (h' := h) (P := True) 1 rfl rfl trivial ?_
    refine wp_J (j := 1429) (st' := [.int 1, .int (mx_i h 1 (nI i + 1).toNatClampNeg), .ref 100]) rfl rfl ?_
    refine wp_steps (i' := 1430) (ls' := [some (.ref 1), some (.ref 100), some (.ref 381), some (.ref 391), some (.int (nI i)), w5, w6]) (st' := [.ref 391, .int 1, .int (mx_i h 1 (nI i + 1).toNatClampNeg), .ref 100]) (h' := h) (P := True) 1 rfl rfl trivial ?_
    refine wp_call (b := false) (y' := 344) (as := [.ref 100, .int (mx_i h 1 (nI i + 1).toNatClampNeg), .int 1, .ref 391]) (rest := []) (P := True) rfl (by with_unfolding_all rfl) trivial (Nat.le_of_ble_eq_true rfl) (wr_344 G (mx_wp.mono (fun o h1 q => ?_) (wp_dm (by decide : 500 ≤ 998) (wp_S1 (wp_G (by decide +kernel) G (O (mx_i h 1 (nI i + 1).toNatClampNeg) 1 h vn vd vr vq np ns nl I))))))
    obtain ⟨s1, G1, post⟩ := q
    obtain ⟨n0, o20, h20, e0, b0, eb0, an0, r0⟩ := post h1 mdl_rfl
    refine ⟨G1, ?_⟩
    rcases ans_cases an0 with ⟨v, rfl, -, -⟩ | ⟨kx, rfl, -, q⟩
    · show mx_wp 1000 346 1431 [some (.ref 1), some (.ref 100), some (.ref 381), some (.ref 391), some (.int (nI i)), w5, w6] [.int 0] (mx_wl h1 391 0 v.toInt64) Qf
      refine step _ h1 _ 0 G1 s1 post mdl_wl (fun b t a => ⟨a.1, fun _ => ?_⟩)
      have hvb : v = b := a.2
      rw [wl_at, hvb]; exact lgc _
    · refine ⟨code kx, hcs kx q, ?_⟩
      show mx_wp 1000 346 1431 [some (.ref 1), some (.ref 100), some (.ref 381), some (.ref 391), some (.int (nI i)), w5, w6] [.int (code kx)] h1 Qf
      exact step _ h1 _ _ G1 s1 post mdl_rfl (fun b t a => ⟨a.1, fun e => absurd e q⟩)
set_option maxRecDepth 8000 in
theorem cs_40 {LW : mxLW} {h : mxH} {i L : Nat} {w5 w6 : Option Value} {Qf : mxO → mxH → Prop} {code : Nat → Int32} (O : ∀ x0 x1 : Int32, Op LW 178 298 [.int x0, .int x1] code) (hcs : ∀ k, code k ≠ 0 → (k, code k) ∈ ([(3, 1)] : List (Nat × Int32))) (g : GS LW h) (hL : mx_r h 1 0 = L) (hi : i + 6 ≤ L) (hL2 : L ≤ 3072) (K : ∀ (h2 : mxH) (w5 w6 : Option Value), GS LW h2 → bud h h2 → sc1 h h2 → mx_wp 1000 346 1565 [some (.ref 1), some (.ref 100), some (.ref 381), some (.ref 391), some (.int (nI i)), w5, w6] [] h2 Qf) : mx_wp 1000 346 1467 [some (.ref 1), some (.ref 100), some (.ref 381), some (.ref 391), some (.int (nI i)), w5, w6] [] h Qf := by
  have G := GS_G g
  obtain ⟨vn, vd, vr, vq, np, ns, nl, I⟩ := g
  have step : ∀ (o : mxO) (h1 hm : mxH) (kk : Int32), mxG h1 → sc1 h h1 → (∀ hm, mdl h1 hm → mx_wp 500 298 0 (mx_fr 298 [.ref 381, .int (mx_i h 1 (nI i + 1).toNatClampNeg), .int (mx_i h 1 (nI i + 2).toNatClampNeg)]) [] hm (fun o2 h2 => ∃ b, o2 = .inl (some (.int b)) ∧ ansOk code o b (mx_i h2 381 0) ∧ bud h h2 ∧ GS LW h2)) → mdl h1 hm → (∀ b t, ansOk code o b t → t = kk ∧ (kk = 0 → lg_cmp (mx_l hm 391 0) b.toInt64 = 0)) → mx_wp 1000 346 1480 [some (.ref 1), some (.ref 100), some (.ref 381), some (.ref 391), some (.int (nI i)), w5, w6] [.int kk] hm Qf := by
    intro o h1 hm kk G1 s1 post hmd hk
    have sch : mx_i hm 1 = mx_i h 1 := by rw [hmd.2.2.2.1]; exact s1.1
    have hLm : mx_r hm 1 0 = L := by rw [hmd.2.2.2.2, s1.2.1]; exact hL
    have Gm : mxG hm := agr_G (P := fun _ => False) (agr_mdl hmd) G1
    refine wp_steps (i' := 1481) (ls' := [some (.ref 1), some (.ref 100), some (.ref 381), some (.ref 391), some (.int (nI i)), some (.int kk), w6]) (st' := []) (h' := hm) (P := True) 1 rfl rfl trivial ?_
    refine wp_steps (i' := 1492) (ls' := [some (.ref 1), some (.ref 100), some (.ref 381), some (.ref 391), some (.int (nI i)), some (.int kk), w6]) (st' := [.int (mx_i hm 1 (nI i + 2).toNatClampNeg), .int (mx_i hm 1 (nI i + 1).toNatClampNeg), .ref 381]) (h' := hm) (P := (1 = 1 ∧ vp_in (nI i + 1) (mx_r hm 1 0)) ∧ (1 = 1 ∧ vp_in (nI i + 2) (mx_r hm 1 0)) ∧ True) 11 rfl rfl ⟨⟨rfl, vpi hLm hi hL2 (j := 1) (by decide)⟩, ⟨rfl, vpi hLm hi hL2 (j := 2) (by decide)⟩, trivial⟩ ?_
    rw [sch]
    refine wp_call (b := false) (y' := 298) (as := [.ref 381, .int (mx_i h 1 (nI i + 1).toNatClampNeg), .int (mx_i h 1 (nI i + 2).toNatClampNeg)]) (rest := []) (P := ((mxT 381).1 = mxRc 298 ∧ mxG hm)) rfl (by with_unfolding_all rfl) ⟨congrArg Prod.fst sT_381, Gm⟩ (Nat.le_of_ble_eq_true rfl) (mx_wp.mono (fun o2 h2 q => ?_) (wp_dm (by decide : 500 ≤ 999) (wp_L (by decide +kernel) Gm (wp_S1 (post hm hmd)))))
    obtain ⟨ql, s2, b, rfl, an, bd, g2⟩ := q
    obtain ⟨et, el⟩ := hk b _ an
    have G2 := GS_G g2
    show mx_wp 1000 346 1493 [some (.ref 1), some (.ref 100), some (.ref 381), some (.ref 391), some (.int (nI i)), some (.int kk), w6] [.int b] h2 Qf
    refine wp_steps (i' := 1495) (ls' := [some (.ref 1), some (.ref 100), some (.ref 381), some (.ref 391), some (.int (nI i)), some (.int kk), some (.int b)]) (st' := [.ref 381]) (h' := h2) (P := True) 2 rfl rfl trivial ?_
    refine wp_call (b := false) (y' := 190) (as := [.ref 381]) (rest := []) (P := ((mxT 381).1 = mxRc 190 ∧ mxG h2)) rfl (by with_unfolding_all rfl) ⟨congrArg Prod.fst sT_381, G2⟩ (Nat.le_of_ble_eq_true rfl) (tr_190_0 G2 ?_)
    show mx_wp 1000 346 1496 [some (.ref 1), some (.ref 100), some (.ref 381), some (.ref 391), some (.int (nI i)), some (.int kk), some (.int b)] [.int (mx_i h2 381 0)] h2 Qf
    rw [et]
    refine wp_steps (i' := 1497) (ls' := [some (.ref 1), some (.ref 100), some (.ref 381), some (.ref 391), some (.int (nI i)), some (.int kk), some (.int b)]) (st' := [.int kk, .int kk]) (h' := h2) (P := True) 1 rfl rfl trivial ?_
    refine wp_br (P := True) (c := kk = kk) (t := 1500) (st' := []) rfl rfl trivial (fun _ => ?_) (fun c => absurd rfl c)
    refine wp_steps (i' := 1501) (ls' := [some (.ref 1), some (.ref 100), some (.ref 381), some (.ref 391), some (.int (nI i)), some (.int kk), some (.int b)]) (st' := [.int kk]) (h' := h2) (P := True) 1 rfl rfl trivial ?_
    refine wp_br (P := True) (c := ¬ kk = 0) (t := 1511) (st' := []) rfl rfl trivial (fun _ => ?_) (fun c => ?_)
    · refine wp_J (j := 1565) (st' := []) rfl rfl ?_
      exact K h2 _ _ g2 bd (sc1_tr s1 (sc1_tr (sc1_mdl hmd) s2))
    · have c0 := el (Decidable.of_not_not c)
      rw [← ql] at c0
      refine wp_steps (i' := 1508) (ls' := [some (.ref 1), some (.ref 100), some (.ref 381), some (.ref 391), some (.int (nI i)), some (.int kk), some (.int b)]) (st' := [.int (lg_cmp (mx_l h2 391 0) b.toInt64)]) (h' := h2) (P := (((mxT 391).1 = 52 ∧ mxG h2) ∧ vp_in 0 (mxT 391).2) ∧ True) 6 rfl rfl ⟨cA sT_391 G2 (vpl rfl), trivial⟩ ?_
      refine wp_br (P := True) (c := lg_cmp (mx_l h2 391 0) b.toInt64 = 0) (t := 1511) (st' := []) rfl rfl trivial (fun _ => ?_) (fun c => absurd c0 c)
      refine wp_J (j := 1565) (st' := []) rfl rfl ?_
      exact K h2 _ _ g2 bd (sc1_tr s1 (sc1_tr (sc1_mdl hmd) s2))
  refine wp_steps (i' := 1479) (ls' := [some (.ref 1), some (.ref 100), some (.ref 381), some (.ref 391), some (.int (nI i)), w5, w6]) (st' := [.ref 391, .int (mx_i h 1 (nI i + 2).toNatClampNeg), .int (mx_i h 1 (nI i + 1).toNatClampNeg), .ref 100]) (h' := h) (P := (1 = 1 ∧ vp_in (nI i + 1) (mx_r h 1 0)) ∧ (1 = 1 ∧ vp_in (nI i + 2) (mx_r h 1 0)) ∧ True) 12 rfl rfl ⟨⟨rfl, vpi hL hi hL2 (j := 1) (by decide)⟩, ⟨rfl, vpi hL hi hL2 (j := 2) (by decide)⟩, trivial⟩ ?_
  refine wp_call (b := false) (y' := 345) (as := [.ref 100, .int (mx_i h 1 (nI i + 1).toNatClampNeg), .int (mx_i h 1 (nI i + 2).toNatClampNeg), .ref 391]) (rest := []) (P := True) rfl (by with_unfolding_all rfl) trivial (Nat.le_of_ble_eq_true rfl) (wr_345 G (mx_wp.mono (fun o h1 q => ?_) (wp_dm (by decide : 500 ≤ 998) (wp_S1 (wp_G (by decide +kernel) G (O (mx_i h 1 (nI i + 1).toNatClampNeg) (mx_i h 1 (nI i + 2).toNatClampNeg) h vn vd vr vq np ns nl I))))))
  obtain ⟨s1, G1, post⟩ := q
  obtain ⟨n0, o20, h20, e0, b0, eb0, an0, r0⟩ := post h1 mdl_rfl
  refine ⟨G1, ?_⟩
  rcases ans_cases an0 with ⟨v, rfl, -, -⟩ | ⟨kx, rfl, -, q⟩
  · show mx_wp 1000 346 1480 [some (.ref 1), some (.ref 100), some (.ref 381), some (.ref 391), some (.int (nI i)), w5, w6] [.int 0] (mx_wl h1 391 0 v.toInt64) Qf
    refine step _ h1 _ 0 G1 s1 post mdl_wl (fun b t a => ⟨a.1, fun _ => ?_⟩)
    have hvb : v = b := a.2
    rw [wl_at, hvb]; exact lgc _
  · refine ⟨code kx, hcs kx q, ?_⟩
    show mx_wp 1000 346 1480 [some (.ref 1), some (.ref 100), some (.ref 381), some (.ref 391), some (.int (nI i)), w5, w6] [.int (code kx)] h1 Qf
    exact step _ h1 _ _ G1 s1 post mdl_rfl (fun b t a => ⟨a.1, fun e => absurd e q⟩)
set_option maxRecDepth 8000 in
theorem cs_41 {LW : mxLW} {h : mxH} {i L : Nat} {w5 w6 : Option Value} {Qf : mxO → mxH → Prop} {code : Nat → Int32} (O : ∀ x0 : Int32, Op LW 152 299 [.int x0] code) (hcode : ∀ k, code k = 0) (g : GS LW h) (hL : mx_r h 1 0 = L) (hi : i + 6 ≤ L) (hL2 : L ≤ 3072) (K : ∀ (h2 : mxH) (w5 w6 : Option Value), GS LW h2 → bud h h2 → sc1 h h2 → mx_wp 1000 346 1565 [some (.ref 1), some (.ref 100), some (.ref 381), some (.ref 391), some (.int (nI i)), w5, w6] [] h2 Qf) : mx_wp 1000 346 1512 [some (.ref 1), some (.ref 100), some (.ref 381), some (.ref 391), some (.int (nI i)), w5, w6] [] h Qf := by
  have G := GS_G g
  obtain ⟨vn, vd, vr, vq, np, ns, nl, I⟩ := g
  refine wp_steps (i' := 1518) (ls' := [some (.ref 1), some (.ref 100), some (.ref 381), some (.ref 391), some (.int (nI i)), w5, w6]) (st' := [.int (mx_i h 1 (nI i + 1).toNatClampNeg), .ref 100]) (h' := h) (P := (1 = 1 ∧ vp_in (nI i + 1) (mx_r h 1 0)) ∧ True) 6 rfl rfl ⟨⟨rfl, vpi hL hi hL2 (j := 1) (by decide)⟩, trivial⟩ ?_
  refine wp_call (b := false) (y' := 152) (as := [.ref 100, .int (mx_i h 1 (nI i + 1).toNatClampNeg)]) (rest := []) (P := ((mxT 100).1 = mxRc 152 ∧ mxG h)) rfl (by with_unfolding_all rfl) ⟨congrArg Prod.fst sT_100, G⟩ (Nat.le_of_ble_eq_true rfl) (mx_wp.mono (fun o h1 q => ?_) (wp_dm (by decide : 500 ≤ 999) (wp_S1 (wp_G (by decide +kernel) G (O (mx_i h 1 (nI i + 1).toNatClampNeg) h vn vd vr vq np ns nl I)))))
  obtain ⟨s1, G1, post⟩ := q
  obtain ⟨n0, o20, h20, e0, b0, eb0, an0, r0⟩ := post h1 mdl_rfl
  rcases ans_cases an0 with ⟨v, rfl, -, -⟩ | ⟨kx, -, -, q⟩
  rotate_left
  · exact absurd (hcode kx) q
  show mx_wp 1000 346 1519 [some (.ref 1), some (.ref 100), some (.ref 381), some (.ref 391), some (.int (nI i)), w5, w6] [.int v] h1 Qf
  have hL1 : mx_r h1 1 0 = L := by rw [s1.2.1]; exact hL
  have sch : mx_i h1 1 = mx_i h 1 := s1.1
  refine wp_steps (i' := 1525) (ls' := [some (.ref 1), some (.ref 100), some (.ref 381), some (.ref 391), some (.int (nI i)), w5, w6]) (st' := [.int (mx_i h1 1 (nI i + 1).toNatClampNeg), .ref 381, .int v]) (h' := h1) (P := (1 = 1 ∧ vp_in (nI i + 1) (mx_r h1 1 0)) ∧ True) 6 rfl rfl ⟨⟨rfl, vpi hL1 hi hL2 (j := 1) (by decide)⟩, trivial⟩ ?_
  rw [sch]
  refine wp_call (b := false) (y' := 299) (as := [.ref 381, .int (mx_i h 1 (nI i + 1).toNatClampNeg)]) (rest := [.int v]) (P := ((mxT 381).1 = mxRc 299 ∧ mxG h1)) rfl (by with_unfolding_all rfl) ⟨congrArg Prod.fst sT_381, G1⟩ (Nat.le_of_ble_eq_true rfl) (mx_wp.mono (fun o h2 q => ?_) (wp_dm (by decide : 500 ≤ 999) (wp_S1 (post h1 mdl_rfl))))
  obtain ⟨s2, b, rfl, an, bd, g2⟩ := q
  have evb : v = b := an.2
  show mx_wp 1000 346 1526 [some (.ref 1), some (.ref 100), some (.ref 381), some (.ref 391), some (.int (nI i)), w5, w6] [.int b, .int v] h2 Qf
  refine wp_br (P := True) (c := v = b) (t := 1565) (st' := []) rfl rfl trivial (fun _ => ?_) (fun c => absurd evb c)
  exact K h2 _ _ g2 bd (sc1_tr s1 s2)
set_option maxRecDepth 8000 in
theorem cs_42 {LW : mxLW} {h : mxH} {i L : Nat} {w5 w6 : Option Value} {Qf : mxO → mxH → Prop} {code : Nat → Int32} (O : Op LW 179 300 [] code) (hcode : ∀ k, code k = 0) (g : GS LW h) (hL : mx_r h 1 0 = L) (hi : i + 6 ≤ L) (hL2 : L ≤ 3072) (K : ∀ (h2 : mxH) (w5 w6 : Option Value), GS LW h2 → bud h h2 → sc1 h h2 → mx_wp 1000 346 1565 [some (.ref 1), some (.ref 100), some (.ref 381), some (.ref 391), some (.int (nI i)), w5, w6] [] h2 Qf) : mx_wp 1000 346 1529 [some (.ref 1), some (.ref 100), some (.ref 381), some (.ref 391), some (.int (nI i)), w5, w6] [] h Qf := by
  have G := GS_G g
  obtain ⟨vn, vd, vr, vq, np, ns, nl, I⟩ := g
  refine wp_steps (i' := 1530) (ls' := [some (.ref 1), some (.ref 100), some (.ref 381), some (.ref 391), some (.int (nI i)), w5, w6]) (st' := [.ref 100]) (h' := h) (P := True) 1 rfl rfl trivial ?_
  refine wp_call (b := false) (y' := 179) (as := [.ref 100]) (rest := []) (P := ((mxT 100).1 = mxRc 179 ∧ mxG h)) rfl (by with_unfolding_all rfl) ⟨congrArg Prod.fst sT_100, G⟩ (Nat.le_of_ble_eq_true rfl) (mx_wp.mono (fun o h1 q => ?_) (wp_dm (by decide : 500 ≤ 999) (wp_S1 (wp_G (by decide +kernel) G (O  h vn vd vr vq np ns nl I)))))
  obtain ⟨s1, G1, post⟩ := q
  obtain ⟨n0, o20, h20, e0, b0, eb0, an0, r0⟩ := post h1 mdl_rfl
  rcases ans_cases an0 with ⟨v, rfl, -, -⟩ | ⟨kx, -, -, q⟩
  rotate_left
  · exact absurd (hcode kx) q
  show mx_wp 1000 346 1531 [some (.ref 1), some (.ref 100), some (.ref 381), some (.ref 391), some (.int (nI i)), w5, w6] [.int v] h1 Qf
  have hL1 : mx_r h1 1 0 = L := by rw [s1.2.1]; exact hL
  have sch : mx_i h1 1 = mx_i h 1 := s1.1
  refine wp_steps (i' := 1532) (ls' := [some (.ref 1), some (.ref 100), some (.ref 381), some (.ref 391), some (.int (nI i)), w5, w6]) (st' := [.ref 381, .int v]) (h' := h1) (P := True) 1 rfl rfl trivial ?_
  skip
  refine wp_call (b := false) (y' := 300) (as := [.ref 381]) (rest := [.int v]) (P := ((mxT 381).1 = mxRc 300 ∧ mxG h1)) rfl (by with_unfolding_all rfl) ⟨congrArg Prod.fst sT_381, G1⟩ (Nat.le_of_ble_eq_true rfl) (mx_wp.mono (fun o h2 q => ?_) (wp_dm (by decide : 500 ≤ 999) (wp_S1 (post h1 mdl_rfl))))
  obtain ⟨s2, b, rfl, an, bd, g2⟩ := q
  have evb : v = b := an.2
  show mx_wp 1000 346 1533 [some (.ref 1), some (.ref 100), some (.ref 381), some (.ref 391), some (.int (nI i)), w5, w6] [.int b, .int v] h2 Qf
  refine wp_br (P := True) (c := v = b) (t := 1565) (st' := []) rfl rfl trivial (fun _ => ?_) (fun c => absurd evb c)
  exact K h2 _ _ g2 bd (sc1_tr s1 s2)
set_option maxRecDepth 8000 in
theorem cs_43 {LW : mxLW} {h : mxH} {i L : Nat} {w5 w6 : Option Value} {Qf : mxO → mxH → Prop} (O : OpV LW 180 301) (g : GS LW h) (hL : mx_r h 1 0 = L) (hi : i + 6 ≤ L) (hL2 : L ≤ 3072) (K : ∀ (h2 : mxH) (w5 w6 : Option Value), GS LW h2 → bud h h2 → sc1 h h2 → mx_wp 1000 346 1565 [some (.ref 1), some (.ref 100), some (.ref 381), some (.ref 391), some (.int (nI i)), w5, w6] [] h2 Qf) : mx_wp 1000 346 1536 [some (.ref 1), some (.ref 100), some (.ref 381), some (.ref 391), some (.int (nI i)), w5, w6] [] h Qf := by
  have G := GS_G g
  obtain ⟨vn, vd, vr, vq, np, ns, nl, I⟩ := g
  refine wp_steps (i' := 1537) (ls' := [some (.ref 1), some (.ref 100), some (.ref 381), some (.ref 391), some (.int (nI i)), w5, w6]) (st' := [.ref 100]) (h' := h) (P := True) 1 rfl rfl trivial ?_
  refine wp_call (b := false) (y' := 180) (as := [.ref 100]) (rest := []) (P := ((mxT 100).1 = mxRc 180 ∧ mxG h)) rfl (by with_unfolding_all rfl) ⟨congrArg Prod.fst sT_100, G⟩ (Nat.le_of_ble_eq_true rfl) (mx_wp.mono (fun o h1 q => ?_) (wp_dm (by decide : 500 ≤ 999) (wp_S1 (wp_G (by decide +kernel) G (O h vn vd vr vq np ns nl I)))))
  obtain ⟨s1, G1, rfl, post⟩ := q
  show mx_wp 1000 346 1538 [some (.ref 1), some (.ref 100), some (.ref 381), some (.ref 391), some (.int (nI i)), w5, w6] [] h1 Qf
  refine wp_steps (i' := 1539) (ls' := [some (.ref 1), some (.ref 100), some (.ref 381), some (.ref 391), some (.int (nI i)), w5, w6]) (st' := [.ref 381]) (h' := h1) (P := True) 1 rfl rfl trivial ?_
  refine wp_call (b := false) (y' := 301) (as := [.ref 381]) (rest := []) (P := ((mxT 381).1 = mxRc 301 ∧ mxG h1)) rfl (by with_unfolding_all rfl) ⟨congrArg Prod.fst sT_381, G1⟩ (Nat.le_of_ble_eq_true rfl) (mx_wp.mono (fun o h2 q => ?_) (wp_dm (by decide : 500 ≤ 999) (wp_S1 (post h1 mdl_rfl))))
  obtain ⟨s2, rfl, bd, g2⟩ := q
  show mx_wp 1000 346 1540 [some (.ref 1), some (.ref 100), some (.ref 381), some (.ref 391), some (.int (nI i)), w5, w6] [] h2 Qf
  refine wp_J (j := 1565) (st' := []) rfl rfl ?_
  exact K h2 _ _ g2 bd (sc1_tr s1 s2)
set_option maxRecDepth 8000 in
theorem cs_44 {LW : mxLW} {h : mxH} {i L : Nat} {w5 w6 : Option Value} {Qf : mxO → mxH → Prop} {code : Nat → Int32} (O : Op LW 181 302 [] code) (hcode : ∀ k, code k = 0) (g : GS LW h) (hL : mx_r h 1 0 = L) (hi : i + 6 ≤ L) (hL2 : L ≤ 3072) (K : ∀ (h2 : mxH) (w5 w6 : Option Value), GS LW h2 → bud h h2 → sc1 h h2 → mx_wp 1000 346 1565 [some (.ref 1), some (.ref 100), some (.ref 381), some (.ref 391), some (.int (nI i)), w5, w6] [] h2 Qf) : mx_wp 1000 346 1541 [some (.ref 1), some (.ref 100), some (.ref 381), some (.ref 391), some (.int (nI i)), w5, w6] [] h Qf := by
  have G := GS_G g
  obtain ⟨vn, vd, vr, vq, np, ns, nl, I⟩ := g
  refine wp_steps (i' := 1542) (ls' := [some (.ref 1), some (.ref 100), some (.ref 381), some (.ref 391), some (.int (nI i)), w5, w6]) (st' := [.ref 100]) (h' := h) (P := True) 1 rfl rfl trivial ?_
  refine wp_call (b := false) (y' := 181) (as := [.ref 100]) (rest := []) (P := ((mxT 100).1 = mxRc 181 ∧ mxG h)) rfl (by with_unfolding_all rfl) ⟨congrArg Prod.fst sT_100, G⟩ (Nat.le_of_ble_eq_true rfl) (mx_wp.mono (fun o h1 q => ?_) (wp_dm (by decide : 500 ≤ 999) (wp_S1 (wp_G (by decide +kernel) G (O  h vn vd vr vq np ns nl I)))))
  obtain ⟨s1, G1, post⟩ := q
  obtain ⟨n0, o20, h20, e0, b0, eb0, an0, r0⟩ := post h1 mdl_rfl
  rcases ans_cases an0 with ⟨v, rfl, -, -⟩ | ⟨kx, -, -, q⟩
  rotate_left
  · exact absurd (hcode kx) q
  show mx_wp 1000 346 1543 [some (.ref 1), some (.ref 100), some (.ref 381), some (.ref 391), some (.int (nI i)), w5, w6] [.int v] h1 Qf
  have hL1 : mx_r h1 1 0 = L := by rw [s1.2.1]; exact hL
  have sch : mx_i h1 1 = mx_i h 1 := s1.1
  refine wp_steps (i' := 1544) (ls' := [some (.ref 1), some (.ref 100), some (.ref 381), some (.ref 391), some (.int (nI i)), w5, w6]) (st' := [.ref 381, .int v]) (h' := h1) (P := True) 1 rfl rfl trivial ?_
  skip
  refine wp_call (b := false) (y' := 302) (as := [.ref 381]) (rest := [.int v]) (P := ((mxT 381).1 = mxRc 302 ∧ mxG h1)) rfl (by with_unfolding_all rfl) ⟨congrArg Prod.fst sT_381, G1⟩ (Nat.le_of_ble_eq_true rfl) (mx_wp.mono (fun o h2 q => ?_) (wp_dm (by decide : 500 ≤ 999) (wp_S1 (post h1 mdl_rfl))))
  obtain ⟨s2, b, rfl, an, bd, g2⟩ := q
  have evb : v = b := an.2
  show mx_wp 1000 346 1545 [some (.ref 1), some (.ref 100), some (.ref 381), some (.ref 391), some (.int (nI i)), w5, w6] [.int b, .int v] h2 Qf
  refine wp_br (P := True) (c := v = b) (t := 1565) (st' := []) rfl rfl trivial (fun _ => ?_) (fun c => absurd evb c)
  exact K h2 _ _ g2 bd (sc1_tr s1 s2)
set_option maxRecDepth 8000 in
theorem cs_45 {LW : mxLW} {h : mxH} {i L : Nat} {w5 w6 : Option Value} {Qf : mxO → mxH → Prop} {code : Nat → Int32} (O : ∀ x0 : Int32, Op LW 142 304 [.int x0] code) (hcode : ∀ k, code k = 0) (g : GS LW h) (hL : mx_r h 1 0 = L) (hi : i + 6 ≤ L) (hL2 : L ≤ 3072) (K : ∀ (h2 : mxH) (w5 w6 : Option Value), GS LW h2 → bud h h2 → sc1 h h2 → mx_wp 1000 346 1565 [some (.ref 1), some (.ref 100), some (.ref 381), some (.ref 391), some (.int (nI i)), w5, w6] [] h2 Qf) : mx_wp 1000 346 1548 [some (.ref 1), some (.ref 100), some (.ref 381), some (.ref 391), some (.int (nI i)), w5, w6] [] h Qf := by
  have G := GS_G g
  obtain ⟨vn, vd, vr, vq, np, ns, nl, I⟩ := g
  refine wp_steps (i' := 1554) (ls' := [some (.ref 1), some (.ref 100), some (.ref 381), some (.ref 391), some (.int (nI i)), w5, w6]) (st' := [.int (mx_i h 1 (nI i + 1).toNatClampNeg), .ref 100]) (h' := h) (P := (1 = 1 ∧ vp_in (nI i + 1) (mx_r h 1 0)) ∧ True) 6 rfl rfl ⟨⟨rfl, vpi hL hi hL2 (j := 1) (by decide)⟩, trivial⟩ ?_
  refine wp_call (b := false) (y' := 142) (as := [.ref 100, .int (mx_i h 1 (nI i + 1).toNatClampNeg)]) (rest := []) (P := ((mxT 100).1 = mxRc 142 ∧ mxG h)) rfl (by with_unfolding_all rfl) ⟨congrArg Prod.fst sT_100, G⟩ (Nat.le_of_ble_eq_true rfl) (mx_wp.mono (fun o h1 q => ?_) (wp_dm (by decide : 500 ≤ 999) (wp_S1 (wp_G (by decide +kernel) G (O (mx_i h 1 (nI i + 1).toNatClampNeg) h vn vd vr vq np ns nl I)))))
  obtain ⟨s1, G1, post⟩ := q
  obtain ⟨n0, o20, h20, e0, b0, eb0, an0, r0⟩ := post h1 mdl_rfl
  rcases ans_cases an0 with ⟨v, rfl, -, -⟩ | ⟨kx, -, -, q⟩
  rotate_left
  · exact absurd (hcode kx) q
  show mx_wp 1000 346 1555 [some (.ref 1), some (.ref 100), some (.ref 381), some (.ref 391), some (.int (nI i)), w5, w6] [.int v] h1 Qf
  have hL1 : mx_r h1 1 0 = L := by rw [s1.2.1]; exact hL
  have sch : mx_i h1 1 = mx_i h 1 := s1.1
  refine wp_steps (i' := 1561) (ls' := [some (.ref 1), some (.ref 100), some (.ref 381), some (.ref 391), some (.int (nI i)), w5, w6]) (st' := [.int (mx_i h1 1 (nI i + 1).toNatClampNeg), .ref 381, .int v]) (h' := h1) (P := (1 = 1 ∧ vp_in (nI i + 1) (mx_r h1 1 0)) ∧ True) 6 rfl rfl ⟨⟨rfl, vpi hL1 hi hL2 (j := 1) (by decide)⟩, trivial⟩ ?_
  rw [sch]
  refine wp_call (b := false) (y' := 304) (as := [.ref 381, .int (mx_i h 1 (nI i + 1).toNatClampNeg)]) (rest := [.int v]) (P := ((mxT 381).1 = mxRc 304 ∧ mxG h1)) rfl (by with_unfolding_all rfl) ⟨congrArg Prod.fst sT_381, G1⟩ (Nat.le_of_ble_eq_true rfl) (mx_wp.mono (fun o h2 q => ?_) (wp_dm (by decide : 500 ≤ 999) (wp_S1 (post h1 mdl_rfl))))
  obtain ⟨s2, b, rfl, an, bd, g2⟩ := q
  have evb : v = b := an.2
  show mx_wp 1000 346 1562 [some (.ref 1), some (.ref 100), some (.ref 381), some (.ref 391), some (.int (nI i)), w5, w6] [.int b, .int v] h2 Qf
  refine wp_br (P := True) (c := v = b) (t := 1565) (st' := []) rfl rfl trivial (fun _ => ?_) (fun c => absurd evb c)
  exact K h2 _ _ g2 bd (sc1_tr s1 s2)
