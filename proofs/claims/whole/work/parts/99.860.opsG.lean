/-! SCALES AND WEIGH -/
theorem scG_congr {T T' : Nat → Int32} {n np : Nat} (e : ∀ k, k < n → T k = T' k) : scG T n np ↔ scG T' n np := by
  unfold scG
  constructor
  · rintro ⟨a, b, c⟩
    refine ⟨a, b, fun k hk => ?_⟩
    have := c k hk
    unfold scR at this ⊢
    rw [← e _ (by omega), ← e _ (by omega), ← e _ (by omega)]; exact this
  · rintro ⟨a, b, c⟩
    refine ⟨a, b, fun k hk => ?_⟩
    have := c k hk
    unfold scR at this ⊢
    rw [e _ (by omega), e _ (by omega), e _ (by omega)]; exact this
theorem scC_congr {r T T' : Nat → Int32} {ns m z : Nat} (e : ∀ k, k < 3 * m → T k = T' k) : scC r T ns m z = scC r T' ns m z := by
  unfold scC
  congr 1
  rw [Bool.eq_iff_iff, all_iff, all_iff]
  unfold scF
  constructor
  · intro w k hk
    have := w k hk
    rw [e _ (by omega), e _ (by omega), e _ (by omega)] at this; exact this
  · intro w k hk
    have := w k hk
    rw [e _ (by omega), e _ (by omega), e _ (by omega)]; exact this
theorem orS_nI' (p : Nat → Bool) : ∃ m : Nat, m < 2048 ∧ orS 11 p = nI m := by
  obtain ⟨m, hm, e⟩ := orS_nI (n := 10) (by omega) p
  have es : orS 11 p = if p 10 = true then orS 10 p ||| ((1 : Int32) <<< (nI 10 &&& 31)) else orS 10 p := rfl
  rw [es]
  by_cases c : p 10 = true
  · refine ⟨m + 1024, by omega, ?_⟩
    rw [if_pos c, e]
    apply b_ext
    intro i hi
    rw [b_or, b_one (by omega) hi, bt_nI hi, bt_nI hi]
    have hor : m + 1024 = 2 ^ 10 ||| m := by
      have q := Nat.two_pow_add_eq_or_of_lt hm 1
      rw [Nat.mul_one] at q
      rw [Nat.add_comm]; exact q
    rw [hor, Nat.testBit_or, Nat.testBit_two_pow]
    by_cases hin : i = 10
    · subst hin; simp
    · have : ¬ 10 = i := fun q => hin q.symm
      simp [hin, this]
  · exact ⟨m, by omega, by rw [if_neg c, e]⟩
theorem sc_10 (p : Nat → Bool) {h : mxH} (e : mx_i h 117 2 = orS 11 p) : V_62 h = orS 11 p >>> (10 &&& 31) := by
  have b : ∀ i, i < 32 → bt (orS 11 p >>> (nI 10 &&& 31)) i = (decide (i = 0) && p 10) := by
    intro i hi
    rw [b_sshr 10 (by omega) _ hi]
    by_cases c : 10 + i < 32
    · rw [if_pos c, bt_orS (by omega) _ c]
      by_cases q : i = 0
      · subst q; simp
      · rw [decide_eq_false (show ¬ 10 + i < 11 by omega), decide_eq_false q]; rfl
    · rw [if_neg c, bt_orS (by omega) _ (by omega)]
      rw [decide_eq_false (show ¬ i = 0 by omega)]; rfl
  unfold V_62
  rw [e]
  show (if ((orS 11 p >>> (nI 10 &&& 31)) &&& 1) = 1 then (1 : Int32) else 0) = orS 11 p >>> (nI 10 &&& 31)
  apply b_ext
  intro i hi
  rw [b i hi]
  by_cases c : bt (orS 11 p) 10 = true
  · rw [if_pos (by rw [tb1 _ (by omega)]; exact c), bt_1]
    rw [bt_orS (by omega) _ (by omega)] at c
    have : p 10 = true := by simpa using c
    rw [this]; simp
  · rw [if_neg (by rw [tb1 _ (by omega)]; exact c), b_0]
    rw [bt_orS (by omega) _ (by omega)] at c
    have : p 10 = false := by simpa using c
    rw [this]; simp
theorem sc_m1 (p : Nat → Bool) : ¬ orS 11 p = -1 := by
  intro q
  have := congrArg (fun x => bt x 31) q
  simp only [b_m1 31 (by omega), bt_orS (n := 11) (by omega) p (i := 31) (by omega)] at this
  simp at this
section
variable {d : Nat} {h : mxH} {Q : mxO → mxH → Prop} {vn vd vr vq np ns nl n : Nat} {r T : Nat → Int32}
def tch (c : Nat) : Prop := c = 101 ∨ c = 117 ∨ c = 118
theorem sp_168 (G : mxG h) (S : mxS h vn vd vr vq) (C : CpN (vw h vn) r np ns nl) (hn : n ≤ 400) (en : mx_i h 101 1 = nI n) (hT : ∀ k, k < n → isR (T k) 0 255 ∧ mx_i h 102 k = (T k).toInt8.toInt32) (k1 : scG T n np → ∀ h1, mxU tch h h1 → mx_i h1 101 1 = 0 → mx_i h1 117 2 = orS 11 (scC r T ns (n / 3)) → Q (.inl none) h1) (k0 : ¬ scG T n np → ∀ h1, mxU tch h h1 → mx_i h1 101 1 = 0 → Q (.inr 0) (mx_ex h1)) : mx_wp (d + 5) 168 0 (mx_fr 168 [.ref 100]) [] h Q := by
  have ga : 118 < vn := va_gt (mxS_vn S)
  have eT : ∀ k, k < n → tpT h k = T k := by
    intro k hk
    obtain ⟨a, b⟩ := hT k hk
    unfold tpT
    rw [b]
    obtain ⟨j, hj, ej⟩ := r255 a
    rw [ej]
    exact (b255 j (by omega)).2.2
  refine tr_168_0 G S ⟨⟨n, hn, en, fun k hk => by rw [eT k hk]; exact (hT k hk).1⟩, C_cp C, fun x3 h4 u4 h8 e8 => ?_⟩
  have w := u4.2 n np hn (C_np6 C) en (C_p C)
  have U8 : mxU tch h h8 := mxU_tr (mxU_mono (fun b hb => by unfold tch; omega) u4.1) (mxU_wi' e8 (.inl rfl))
  have t8 : mx_i h8 101 1 = 0 := by rw [e8, wi_at rfl rfl]
  rw [scG_congr eT] at w
  rcases w with ⟨g, rfl, w1, w2⟩ | ⟨g, rfl⟩
  · refine ⟨fun q => absurd q (by decide), fun _ => ?_⟩
    have f1 : mx_i h8 117 1 = nI (n / 3) := by rw [e8, wi_ne (by decide)]; exact w1
    have f2 : ∀ k, k < n → mx_i h8 118 k = T k := fun k hk => by rw [e8, wi_ne (by decide), w2 k hk, eT k hk]
    have C8 : CpN (vw h8 vn) r np ns nl := CpN_congr (fun k j _ => by
      show mx_i h8 (vn + k) j = mx_i h (vn + k) j
      rw [mxU_i U8 (by unfold tch; omega)]) (fun _ _ _ _ => rfl) C
    have o : okFc h8 vn r np ns nl (n / 3) := ⟨C8, by have := g.2.1; omega, f1, fun k hk => by
      rw [f2 _ (by omega), f2 _ (by omega)]; exact (g.2.2 k hk).2.2.1⟩
    refine ⟨⟨(r, np, ns, nl, n / 3), o⟩, fun h15 u15 => ?_⟩
    refine k1 g h15 (mxU_tr U8 (mxU_mono (fun b hb => by unfold tch; omega) u15.1)) (by rw [mxU_i u15.1 (by decide)]; exact t8) ?_
    rw [u15.2 r np ns nl _ o]
    exact orS_congr (fun z _ => scC_congr (fun k hk => f2 k (by omega)))
  · exact ⟨fun _ => k0 g h8 U8 t8, fun q => absurd rfl q⟩
set_option maxRecDepth 8000 in
theorem tr_166_0 {i1 : Int32} (G : mxG h) (S : mxS h vn vd vr vq) (C : CpN (vw h vn) r np ns nl) (hn : n ≤ 400) (en : mx_i h 101 1 = nI n) (hT : ∀ k, k < n → isR (T k) 0 255 ∧ mx_i h 102 k = (T k).toInt8.toInt32) (k1 : scG T n np → ∀ h1, mxU tch h h1 → mx_i h1 101 1 = 0 → mx_i h1 117 2 = orS 11 (scC r T ns (n / 3)) → Q (.inl (some (.int (if i1 = 0 then V_61 h1 else V_62 h1)))) h1) (k0 : ¬ scG T n np → ∀ h1, mxU tch h h1 → mx_i h1 101 1 = 0 → Q (.inr 0) (mx_ex h1)) : mx_wp (d + 6) 166 0 (mx_fr 166 [.ref 100, .int i1]) [] h Q := by
  show mx_wp (d + 6) 166 0 [some (.ref 100), some (.int i1)] [] h Q
  refine wp_steps (i' := 1) (ls' := [some (.ref 100), some (.int i1)]) (st' := [.ref 100]) (h' := h) (P := True) 1 rfl rfl trivial ?_
  refine wp_call (b := false) (y' := 168) (as := [.ref 100]) (rest := []) (P := ((mxT 100).1 = mxRc 168 ∧ mxG h)) rfl (by with_unfolding_all rfl) ⟨(congrArg Prod.fst sT_100), G⟩ (Nat.le_of_ble_eq_true rfl) (sp_168 (d := d) G S C hn en hT (fun g h1 U t e => ?_) (fun g h1 U t => k0 g h1 U t))
  have k1 := k1 g h1 U t e
  have G1 := mxU_G U G
  show mx_wp (d + 6) 166 2 [some (.ref 100), some (.int i1)] [] h1 Q
  refine wp_steps (i' := 3) (ls' := [some (.ref 100), some (.int i1)]) (st' := [.int i1]) (h' := h1) (P := True) 1 rfl rfl trivial ?_
  refine wp_br (P := True) rfl rfl trivial (fun c => ?_) (fun c => ?_)
  · replace c : i1 = 0 := c
    rw [if_pos c] at k1
    show mx_wp (d + 6) 166 12 [some (.ref 100), some (.int i1)] [] h1 Q
    refine wp_steps (i' := 14) (ls' := [some (.ref 100), some (.int i1)]) (st' := [.ref 117]) (h' := h1) (P := ((mxT 100).1 = 10 ∧ mxG h1) ∧ True) 2 rfl rfl ⟨⟨(congrArg Prod.fst sT_100), G1⟩, trivial⟩ ?_
    refine wp_call (b := false) (y' := 61) (as := [.ref 117]) (rest := []) (P := ((mxT 117).1 = mxRc 61 ∧ mxG h1)) rfl (by with_unfolding_all rfl) ⟨(congrArg Prod.fst sT_117), G1⟩ (Nat.le_of_ble_eq_true rfl) (sp_61 G1 ?_)
    show mx_wp (d + 6) 166 15 [some (.ref 100), some (.int i1)] [.int (V_61 h1)] h1 Q
    exact wp_end (o := .inl (some (.int (V_61 h1)))) (h' := h1) (P := True) rfl rfl trivial k1
  · replace c : ¬ i1 = 0 := c
    rw [if_neg c] at k1
    refine wp_steps (i' := 6) (ls' := [some (.ref 100), some (.int i1)]) (st' := [.ref 117]) (h' := h1) (P := ((mxT 100).1 = 10 ∧ mxG h1) ∧ True) 2 rfl rfl ⟨⟨(congrArg Prod.fst sT_100), G1⟩, trivial⟩ ?_
    refine wp_call (b := false) (y' := 62) (as := [.ref 117]) (rest := []) (P := ((mxT 117).1 = mxRc 62 ∧ mxG h1)) rfl (by with_unfolding_all rfl) ⟨(congrArg Prod.fst sT_117), G1⟩ (Nat.le_of_ble_eq_true rfl) (sp_62 G1 ?_)
    show mx_wp (d + 6) 166 7 [some (.ref 100), some (.int i1)] [.int (V_62 h1)] h1 Q
    have v01 : V_62 h1 = 1 ∨ V_62 h1 = 0 := by
      unfold V_62
      by_cases q : ((mx_i h1 117 2 >>> (10 &&& 31)) &&& 1) = 1
      · rw [if_pos q]; exact .inl rfl
      · rw [if_neg q]; exact .inr rfl
    refine wp_br (P := True) rfl rfl trivial (fun c => ?_) (fun c => ?_)
    · replace c : V_62 h1 = 0 := c
      show mx_wp (d + 6) 166 10 [some (.ref 100), some (.int i1)] [] h1 Q
      refine wp_steps (i' := 11) (ls' := [some (.ref 100), some (.int i1)]) (st' := [.int 0]) (h' := h1) (P := True) 1 rfl rfl trivial ?_
      exact wp_end (o := .inl (some (.int 0))) (h' := h1) (P := True) rfl rfl trivial (c ▸ k1)
    · replace c : ¬ V_62 h1 = 0 := c
      refine wp_steps (i' := 9) (ls' := [some (.ref 100), some (.int i1)]) (st' := [.int 1]) (h' := h1) (P := True) 1 rfl rfl trivial ?_
      refine wp_J rfl rfl ?_
      have e1 : V_62 h1 = 1 := v01.resolve_right c
      exact wp_end (o := .inl (some (.int 1))) (h' := h1) (P := True) rfl rfl trivial (e1 ▸ k1)
set_option maxRecDepth 8000 in
theorem tr_167_0 (G : mxG h) (S : mxS h vn vd vr vq) (C : CpN (vw h vn) r np ns nl) (hn : n ≤ 400) (en : mx_i h 101 1 = nI n) (hT : ∀ k, k < n → isR (T k) 0 255 ∧ mx_i h 102 k = (T k).toInt8.toInt32) (k1 : scG T n np → ∀ h1, mxU tch h h1 → mx_i h1 101 1 = 0 → mx_i h1 117 2 = orS 11 (scC r T ns (n / 3)) → Q (.inl (some (.int (V_63 h1 vn)))) h1) (k0 : ¬ scG T n np → ∀ h1, mxU tch h h1 → mx_i h1 101 1 = 0 → Q (.inr 0) (mx_ex h1)) : mx_wp (d + 6) 167 0 (mx_fr 167 [.ref 100]) [] h Q := by
  have ga : 118 < vn := va_gt (mxS_vn S)
  show mx_wp (d + 6) 167 0 [some (.ref 100)] [] h Q
  refine wp_steps (i' := 1) (ls' := [some (.ref 100)]) (st' := [.ref 100]) (h' := h) (P := True) 1 rfl rfl trivial ?_
  refine wp_call (b := false) (y' := 168) (as := [.ref 100]) (rest := []) (P := ((mxT 100).1 = mxRc 168 ∧ mxG h)) rfl (by with_unfolding_all rfl) ⟨(congrArg Prod.fst sT_100), G⟩ (Nat.le_of_ble_eq_true rfl) (sp_168 (d := d) G S C hn en hT (fun g h1 U t e => ?_) (fun g h1 U t => k0 g h1 U t))
  have k1 := k1 g h1 U t e
  have G1 := mxU_G U G
  have S1 := mxU_S U S
  show mx_wp (d + 6) 167 2 [some (.ref 100)] [] h1 Q
  refine wp_steps (i' := 4) (ls' := [some (.ref 100)]) (st' := [.ref 117]) (h' := h1) (P := ((mxT 100).1 = 10 ∧ mxG h1) ∧ True) 2 rfl rfl ⟨⟨(congrArg Prod.fst sT_100), G1⟩, trivial⟩ ?_
  refine wp_steps (i' := 6) (ls' := [some (.ref 100)]) (st' := [.ref (mx_r h1 100 4), .ref 117]) (h' := h1) (P := ((mxT 100).1 = 10 ∧ mxG h1) ∧ True) 2 rfl rfl ⟨⟨(congrArg Prod.fst sT_100), G1⟩, trivial⟩ ?_
  rw [mxS_4 S1]
  refine wp_call (b := false) (y' := 63) (as := [.ref 117, .ref vn]) (rest := []) (P := ((mxT 117).1 = mxRc 63 ∧ mxG h1)) rfl (by with_unfolding_all rfl) ⟨(congrArg Prod.fst sT_117), G1⟩ (Nat.le_of_ble_eq_true rfl) (sp_63 G1 (mxS_vn S1) (by rw [mxU_i U (by unfold tch; omega)]; exact C_cp C) (by rw [mxU_i U (by unfold tch; omega)]; exact C_cs C) ?_)
  show mx_wp (d + 6) 167 7 [some (.ref 100)] [.int (V_63 h1 vn)] h1 Q
  exact wp_end (o := .inl (some (.int (V_63 h1 vn)))) (h' := h1) (P := True) rfl rfl trivial k1
end
theorem bud_s {h h1 h2 : mxH} (w : bud h h1) (u : bq h1 h2) : bud h h2 := ⟨by rw [u.1]; exact w.1, by rw [u.2]; exact w.2⟩
theorem Inv_tp {h h2 : mxH} {vn vd vr vq np ns nl : Nat} (I : Inv LWd h vn vd vr vq np ns nl) (c : mx_c h2 = mx_c h) (rr : mx_r h2 = mx_r h) (e : ∀ b, ¬ tch b → b ≠ 381 → mx_i h2 b = mx_i h b) (e3 : ∀ j, j ≠ 0 → j ≠ 8 → mx_i h2 381 j = mx_i h 381 j) (t1 : mx_i h2 101 1 = 0) (t8 : mx_i h2 381 8 = 0) : Inv LWd h2 vn vd vr vq np ns nl := by
  have e' : ∀ b, ¬ scr vd vr vq b → mx_i h2 b = mx_i h b := fun b hb => e b (fun q => hb (by unfold tch at q; unfold scr; omega)) (fun q => hb (by unfold scr; omega))
  refine Inv_bad I c (fun b _ => by rw [rr]) (fun b hb _ => e' b hb) (fun j _ => by rw [e 100 (by unfold tch; omega) (by decide)]) (e3 3 (by decide) (by decide)) (e3 6 (by decide) (by decide)) ?_ t1 t8
  rw [e 100 (by unfold tch; omega) (by decide), e3 12 (by decide) (by decide)]
  exact I.2.2.2.2.2.1
theorem op_scales (x0 : Int32) : Op LWd 166 281 [.int x0] (fun k => if k = 0 then 1 else 0) := by
  intro h vn vd vr vq np ns nl I
  have S := I.2.1
  have C := I.2.2.1
  obtain ⟨n, hn, e1, e8, hT⟩ := I.2.2.2.2.1
  refine tr_166_0 (T := mx_i h 386) I.1 S C hn e1 hT (fun g h1 U t e hm hmd => ?_) (fun g h1 U t hm hmd => ?_)
  · have i1 : ∀ b, ¬ tch b → mx_i hm b = mx_i h b := fun b hb => (md_382 hmd b).trans (mxU_i U hb)
    have Gm : mxG hm := agr_G (P := fun _ => False) (agr_mdl hmd) (mxU_G U I.1)
    have m382 := i1 382 (by unfold tch; omega)
    have m381 := i1 381 (by unfold tch; omega)
    have m386 := i1 386 (by unfold tch; omega)
    refine tr_281_0 Gm ⟨by rw [m381]; exact ⟨n, hn, e8⟩, by rw [m382]; exact C_rp C, by rw [m382]; exact C_rs C, fun x4 h5 u5 v8 ev8 h9 e9 => ?_⟩
    obtain ⟨U5, f5, j5, w5⟩ := u5
    have w := w5 n np ns hn (C_np6 C) (C_ns10 C) (by rw [m381]; exact e8) (by rw [m382]; exact C_np C) (by rw [m382]; exact C_ns C)
    rw [m382, m386] at w
    rcases w with ⟨_, w⟩ | ⟨q, _⟩
    · rw [w, if_neg (sc_m1 _)] at ev8
      subst ev8
      have t9 : mx_i h9 381 0 = 0 := by rw [e9, thr0]
      rw [t9]
      refine ⟨fun q => absurd q (by decide), fun _ v13 e13 => ⟨v13, rfl, ?_, ?_, vn, vd, vr, vq, np, ns, nl, ?_⟩⟩
      · refine ⟨rfl, ?_⟩
        rw [e13, w]
        by_cases q : x0 = 0
        · rw [if_pos q, if_pos q]; unfold V_61; rw [e]
        · rw [if_neg q, if_neg q]; exact sc_10 _ e
      · exact bud_r (bq_tr (bq_tr (bq_tr (bq_U U) (bq_mdl hmd)) (bq_U U5)) (bq_wi' e9))
      · refine Inv_tp I ?_ ?_ (fun b hb h3 => ?_) (fun j j0 j8 => ?_) ?_ ?_
        · rw [e9]; show mx_c h5 = _; rw [U5.1, hmd.1, U.1]
        · rw [e9]; show mx_r h5 = _; rw [mxU_r U5, hmd.2.2.2.2, mxU_r U]
        · rw [e9, wi_ne h3, mxU_i U5 h3, i1 b hb]
        · rw [e9, wi_nj j0, j5 j j8, m381]
        · rw [e9, wi_ne (by decide), mxU_i U5 (by decide), md_382 hmd]; exact t
        · rw [e9, wi_nj (by decide)]; exact f5
    · exact absurd g q
  · have i1 : ∀ b, ¬ tch b → mx_i hm b = mx_i h b := fun b hb => (md_382 hmd b).trans (mxU_i U hb)
    have Gm : mxG hm := agr_G (P := fun _ => False) (agr_mdl hmd) (mxG_ex (mxU_G U I.1))
    have m382 := i1 382 (by unfold tch; omega)
    have m381 := i1 381 (by unfold tch; omega)
    have m386 := i1 386 (by unfold tch; omega)
    refine tr_281_0 Gm ⟨by rw [m381]; exact ⟨n, hn, e8⟩, by rw [m382]; exact C_rp C, by rw [m382]; exact C_rs C, fun x4 h5 u5 v8 ev8 h9 e9 => ?_⟩
    obtain ⟨U5, f5, j5, w5⟩ := u5
    have w := w5 n np ns hn (C_np6 C) (C_ns10 C) (by rw [m381]; exact e8) (by rw [m382]; exact C_np C) (by rw [m382]; exact C_ns C)
    rw [m382, m386] at w
    rcases w with ⟨q, _⟩ | ⟨_, w⟩
    · exact absurd q g
    · rw [w, if_pos rfl] at ev8
      subst ev8
      have t9 : mx_i h9 381 0 = 1 := by rw [e9, thr0]
      rw [t9]
      refine ⟨fun _ => ⟨0, rfl, ?_, ?_, vn, vd, vr, vq, np, ns, nl, ?_⟩, fun q => absurd (by decide) q⟩
      · exact ⟨rfl, by decide⟩
      · have := bud_ex hmd
        exact bud_q (bq_U U) (bud_s this (bq_tr (bq_U U5) (bq_wi' e9)))
      · refine Inv_tp I ?_ ?_ (fun b hb h3 => ?_) (fun j j0 j8 => ?_) ?_ ?_
        · rw [e9]; show mx_c h5 = _; rw [U5.1, hmd.1]; exact U.1
        · rw [e9]; show mx_r h5 = _; rw [mxU_r U5, hmd.2.2.2.2]; exact (show mx_r h1 = mx_r h from mxU_r U)
        · rw [e9, wi_ne h3, mxU_i U5 h3, i1 b hb]
        · rw [e9, wi_nj j0, j5 j j8, m381]
        · rw [e9, wi_ne (by decide), mxU_i U5 (by decide), md_382 hmd]; exact t
        · rw [e9, wi_nj (by decide)]; exact f5
