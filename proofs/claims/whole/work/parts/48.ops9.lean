/-! OPS 9: feed -/
theorem i8_low {x y : Int32} (h : ∀ i, i < 8 → bt x i = bt y i) : x.toInt8 = y.toInt8 := by
  apply Int8.toBitVec_inj.mp
  show x.toBitVec.signExtend 8 = y.toBitVec.signExtend 8
  apply BitVec.eq_of_getLsbD_eq
  intro i hi
  rw [BitVec.getLsbD_signExtend, BitVec.getLsbD_signExtend, if_pos (by omega), if_pos (by omega)]
  have := h i hi
  unfold bt at this
  rw [this]
theorem a255 (x : Int32) : isR (x &&& 255) 0 255 := by
  have e : x &&& 255 = nI (x &&& 255).toBitVec.toNat := by
    apply Int32.toBitVec_inj.mp
    show (x &&& 255).toBitVec = BitVec.ofNat 32 (x &&& 255).toBitVec.toNat
    rw [BitVec.ofNat_toNat, BitVec.setWidth_eq]
  have l : (x &&& 255).toBitVec.toNat ≤ 255 := by
    rw [Int32.toBitVec_and, BitVec.toNat_and]
    exact Nat.and_le_right
  rw [e]
  exact ⟨nI0 (by omega), nI_le (b := 255) l (by decide)⟩
/-- the k-th byte of a feed -/
def pk5 (i1 i2 i3 i4 i5 : Int32) (k : Nat) : Int32 := if k < 4 then i1 else if k < 8 then i2 else if k < 12 then i3 else if k < 16 then i4 else i5
def ub (x : Int32) (q : Nat) : Int32 := (x.toUInt32 >>> ((nI (24 - 8 * q)).toUInt32 &&& Int32.toUInt32 31)).toInt32 &&& 255
theorem ub_by (x : Int32) {q : Nat} : by4 x q = (ub x q).toInt8.toInt32 := by
  unfold by4 ub
  congr 1
  apply i8_low
  intro i hi
  rw [b_and, b_255, b_ushr _ (by omega), b_sshr _ (by omega) x (by omega)]
  by_cases c : 24 - 8 * q + i < 32
  · rw [if_pos c]; simp [hi]
  · omega
theorem fd_s : ∀ z, z < 20 → (24 - (8 * ((nI z) - (nI z) / 4 * 4)) : Int32) = nI (24 - 8 * (z % 4)) := by decide +kernel
theorem fd_p {i1 i2 i3 i4 i5 : Int32} {z : Nat} (hz : z < 20) : ((if (nI z) < 4 then i1 else (if (nI z) < 8 then i2 else (if (nI z) < 12 then i3 else (if (nI z) < 16 then i4 else i5)))) : Int32) = pk5 i1 i2 i3 i4 i5 z := by
  have l : ∀ m, m < 2 ^ 31 → ((nI z < nI m) ↔ z < m) := fun m hm => nI_ltI (by omega) hm
  have l4 : (nI z < 4) ↔ z < 4 := l 4 (by decide)
  have l8 : (nI z < 8) ↔ z < 8 := l 8 (by decide)
  have l12 : (nI z < 12) ↔ z < 12 := l 12 (by decide)
  have l16 : (nI z < 16) ↔ z < 16 := l 16 (by decide)
  unfold pk5
  simp only [l4, l8, l12, l16]
theorem fd_F {i1 i2 i3 i4 i5 : Int32} {z n : Nat} {s : mxH} (hz : z < 20) (hn : n < 400) (e : mx_i s 381 8 = nI n) : F_207_13 i1 i2 i3 i4 i5 z s = mx_wi (mx_wi s 386 n (ub (pk5 i1 i2 i3 i4 i5 z) (z % 4))) 381 8 (nI (n + 1)) := by
  unfold F_207_13 ub
  rw [fd_p hz, fd_s z hz, wi_ne (by decide), e, nI_clamp (by omega), nI_1]
theorem fd_z {i1 i2 i3 i4 i5 : Int32} {n : Nat} {s0 : mxH} (hn : n ≤ 380) (e : mx_i s0 381 8 = nI n) : ∀ z, z ≤ 20 → mxU (fun b => b = 381 ∨ b = 386) s0 (fz (F_207_13 i1 i2 i3 i4 i5) 0 z s0) ∧ (∀ k, k ≠ 8 → mx_i (fz (F_207_13 i1 i2 i3 i4 i5) 0 z s0) 381 k = mx_i s0 381 k) ∧ mx_i (fz (F_207_13 i1 i2 i3 i4 i5) 0 z s0) 381 8 = nI (n + z) ∧ ∀ j, mx_i (fz (F_207_13 i1 i2 i3 i4 i5) 0 z s0) 386 j = if n ≤ j ∧ j < n + z then ub (pk5 i1 i2 i3 i4 i5 (j - n)) ((j - n) % 4) else mx_i s0 386 j := by
  intro z
  induction z with
  | zero => exact fun _ => ⟨by rw [fz_0]; exact mxU_rfl, fun k _ => by rw [fz_0], by rw [fz_0]; exact e, fun j => by rw [fz_0, if_neg (by omega)]⟩
  | succ z ih =>
    intro hz
    obtain ⟨a, b, c, w⟩ := ih (by omega)
    rw [fz_s (Nat.zero_le _), fd_F (by omega) (by omega) c]
    refine ⟨mxU_tr a (mxU_tr (mxU_wi (.inr rfl)) (mxU_wi (.inl rfl))), fun k hk => ?_, ?_, fun j => ?_⟩
    · rw [wi_nj hk, wi_ne (by decide)]; exact b k hk
    · rw [wi_at rfl rfl]; rfl
    · rw [wi_ne (by decide), wi_i, w]
      by_cases c1 : j = n + z
      · subst c1
        rw [if_pos ⟨rfl, rfl⟩, if_pos (by omega), show n + z - n = z by omega]
      · rw [if_neg (fun q => c1 q.2)]
        by_cases c2 : n ≤ j ∧ j < n + z
        · rw [if_pos c2, if_pos (by omega)]
        · rw [if_neg c2, if_neg (by omega)]
theorem adN5 {i1 i2 i3 i4 i5 : Int32} {n : Nat} {h h1 h2 h3 h4 h5 : mxH} (hn : n ≤ 380) (e : mx_i h 101 1 = nI n) (a1 : adN i1 h h1) (a2 : adN i2 h1 h2) (a3 : adN i3 h2 h3) (a4 : adN i4 h3 h4) (a5 : adN i5 h4 h5) : mxU (fun b => b = 101 ∨ b = 102) h h5 ∧ mx_i h5 101 1 = nI (n + 20) ∧ ∀ j, mx_i h5 102 j = if n ≤ j ∧ j < n + 20 then by4 (pk5 i1 i2 i3 i4 i5 (j - n)) ((j - n) % 4) else mx_i h 102 j := by
  obtain ⟨l1, b1⟩ := a1.2.2 n (by omega) e
  obtain ⟨l2, b2⟩ := a2.2.2 _ (by omega) l1
  obtain ⟨l3, b3⟩ := a3.2.2 _ (by omega) l2
  obtain ⟨l4, b4⟩ := a4.2.2 _ (by omega) l3
  obtain ⟨l5, b5⟩ := a5.2.2 _ (by omega) l4
  refine ⟨mxU_tr a1.1 (mxU_tr a2.1 (mxU_tr a3.1 (mxU_tr a4.1 a5.1))), l5, fun j => ?_⟩
  rw [b5, b4, b3, b2, b1]
  unfold pk5
  by_cases c : n ≤ j ∧ j < n + 20
  · rw [if_pos c]
    by_cases c1 : j < n + 4
    · rw [if_neg (by omega), if_neg (by omega), if_neg (by omega), if_neg (by omega), if_pos (by omega), if_pos (by omega), Nat.mod_eq_of_lt (by omega)]
    · by_cases c2 : j < n + 8
      · rw [if_neg (by omega), if_neg (by omega), if_neg (by omega), if_pos (by omega), if_neg (by omega), if_pos (by omega)]; congr 1; omega
      · by_cases c3 : j < n + 12
        · rw [if_neg (by omega), if_neg (by omega), if_pos (by omega), if_neg (by omega), if_neg (by omega), if_pos (by omega)]; congr 1; omega
        · by_cases c4 : j < n + 16
          · rw [if_neg (by omega), if_pos (by omega), if_neg (by omega), if_neg (by omega), if_neg (by omega), if_pos (by omega)]; congr 1; omega
          · rw [if_pos (by omega), if_neg (by omega), if_neg (by omega), if_neg (by omega), if_neg (by omega)]; congr 1; omega
  · rw [if_neg c, if_neg (by omega), if_neg (by omega), if_neg (by omega), if_neg (by omega), if_neg (by omega)]
theorem op_feed {LW : mxLW} (ok : LWok LW) (i1 i2 i3 i4 i5 : Int32) : Op LW 132 207 [.int i1, .int i2, .int i3, .int i4, .int i5] (fun _ => 0) := by
  intro h vn vd vr vq np ns nl I
  obtain ⟨n, t1, t2, t3, t4⟩ := I.2.2.2.2.1
  have hc : (400 < nI n + 20) ↔ 400 < n + 20 := by
    rw [show (20 : Int32) = nI 20 from rfl, nI_add]
    exact nI_ltI (a := 400) (by decide) (by omega)
  by_cases hr : 400 < n + 20
  · have eV : V_85 h = 0 := by unfold V_85; rw [t2, if_pos (hc.mpr hr)]
    refine tr_132_0 I.1 I.2.1 ⟨fun _ hm hmd => ?_, fun c => absurd eV c⟩
    refine tr_207_0 (agr_G (P := fun _ => False) (agr_mdl hmd) I.1) (fun h1 e1 => ⟨fun _ => ?_, fun c => absurd ?_ c⟩)
    · subst e1
      exact op_fin ok I (smr_mdl hmd) (bud_mdl hmd) ⟨rfl, rfl⟩
    · rw [e1, wi_nj (by decide), md_382 hmd, t3]; exact hc.mpr hr
  · have eV : V_85 h = 1 := by unfold V_85; rw [t2, if_neg (fun q => hr (hc.mp q))]
    have hn : n ≤ 380 := by omega
    refine tr_132_0 I.1 I.2.1 ⟨fun c => absurd (eV ▸ c) (by decide), fun _ => ⟨⟨n, by omega, t2⟩, fun h4 a4 => ?_⟩⟩
    have l4 := (a4.2.2 n (by omega) t2).1
    refine ⟨⟨n + 4, by omega, l4⟩, fun h10 a10 => ?_⟩
    have l10 := (a10.2.2 _ (by omega) l4).1
    refine ⟨⟨n + 4 + 4, by omega, l10⟩, fun h16 a16 => ?_⟩
    have l16 := (a16.2.2 _ (by omega) l10).1
    refine ⟨⟨n + 4 + 4 + 4, by omega, l16⟩, fun h22 a22 => ?_⟩
    have l22 := (a22.2.2 _ (by omega) l16).1
    refine ⟨⟨n + 4 + 4 + 4 + 4, by omega, l22⟩, fun h28 a28 hm hmd => ?_⟩
    obtain ⟨uA, lA, bA⟩ := adN5 hn t2 a4 a10 a16 a22 a28
    have uA' : mxU (fun b => (b = 101 ∨ b = 102) ∨ (b = 381 ∨ b = 386)) h h28 := mxU_mono (fun _ q => .inl q) uA
    have m381 : ∀ k, mx_i hm 381 k = mx_i h 381 k := fun k => by rw [md_382 hmd, mxU_i uA (by omega)]
    have um : agr (fun b => (b = 101 ∨ b = 102) ∨ (b = 381 ∨ b = 386)) h hm := agr_tr (agr_U uA') (agr_mdl hmd)
    refine tr_207_0 (agr_G um I.1) (fun h1 e1 => ?_)
    have u1 : agr (fun b => (b = 101 ∨ b = 102) ∨ (b = 381 ∨ b = 386)) h h1 := agr_tr um (agr_wi' e1 (.inr (.inl rfl)))
    have m8 : mx_i h1 381 8 = nI n := by rw [e1, wi_nj (by decide), m381]; exact t3
    rw [m8]
    refine ⟨fun q => absurd (hc.mp q) hr, fun _ => ?_⟩
    have Z := fd_z (i1 := i1) (i2 := i2) (i3 := i3) (i4 := i4) (i5 := i5) hn m8
    refine lp_207_13 (n := 20) 0 (agr_G u1 I.1) (fun _ _ _ => rfl) (by decide) (by decide) (fun z _ hz => ⟨?_, trivial⟩) ?_
    · rw [(Z z (by omega)).2.2.1]; exact vp_in_nI (by omega) (by decide)
    · obtain ⟨z1, z2, z3, z4⟩ := Z 20 (by decide)
      generalize fz (F_207_13 i1 i2 i3 i4 i5) 0 20 h1 = h5 at z1 z2 z3 z4 ⊢
      have u5 : agr (fun b => (b = 101 ∨ b = 102) ∨ (b = 381 ∨ b = 386)) h h5 := agr_tr u1 (agr_U (mxU_mono (fun _ q => .inr q) z1))
      have f381 : ∀ k, k ≠ 0 → k ≠ 8 → mx_i h5 381 k = mx_i h 381 k := fun k k0 k8 => by
        rw [z2 k k8, e1, wi_nj k0, m381]
      have i100 := u5.2.2 100 (by omega)
      have i382 := u5.2.2 382 (by omega)
      have hS := I.2.1.2.2.2.2
      have i101 : ∀ b, b ≠ 381 → b ≠ 386 → mx_i h5 b = mx_i h28 b := fun b b1 b2 => by
        rw [mxU_i z1 (by omega), e1, wi_ne b1, md_382 hmd b]
      refine ⟨_, rfl, ⟨?_, ?_⟩, ⟨?_, ?_⟩, vn, vd, vr, vq, np, ns, nl, agr_G u5 I.1, agr_S u5 I.2.1, ?_, ?_, ?_, ?_, ?_, ?_⟩
      · rw [z2 0 (by decide), e1, thr0]
      · rw [z3, lA]
      · rw [z1.2.1, e1]; show mx_x hm ≤ _; rw [hmd.2.1, uA.2.1]; omega
      · rw [z1.2.2.1, e1]; show mx_n hm ≤ _; rw [hmd.2.2.1, uA.2.2.1]; omega
      · rw [i382]
        refine CpN_congr (fun k j hk => ?_) (fun _ _ _ _ => rfl) I.2.2.1
        show mx_i h5 (vn + k) j = mx_i h (vn + k) j
        rw [u5.2.2 _ (by unfold inV at hk; omega)]
      · exact W_agr ok u5 (by omega) (fun k _ => by rw [i382]) I.2.2.2.1
      · refine ⟨n + 20, by omega, ?_, z3, fun k hk => ?_⟩
        · rw [i101 101 (by decide) (by decide)]; exact lA
        · rw [i101 102 (by decide) (by decide), bA, z4]
          by_cases c : n ≤ k ∧ k < n + 20
          · rw [if_pos c, if_pos c, ub_by]
            exact ⟨a255 _, rfl⟩
          · rw [if_neg c, if_neg c, e1, wi_ne (by decide), md_382 hmd 386, mxU_i uA (by omega)]
            exact t4 k (by omega)
      · rw [i100, f381 12 (by decide) (by decide)]; exact I.2.2.2.2.2.1
      · exact R_agr u5 (by omega) (by omega) (by rw [i100]) (by rw [i100]) (f381 6 (by decide) (by decide)) (by rw [i382]) (by rw [i382]) I.2.2.2.2.2.2.1
      · exact K_agr ok u5 (by omega) (by omega) (by rw [i100]) (f381 3 (by decide) (by decide)) I.2.2.2.2.2.2.2
