/-! SPECS by hand, 4 -/
def rmC (vn : Nat) (h h1 : mxH) : Prop := mxU (fun b => b = 100 ∨ (189 ≤ b ∧ b < 381)) h h1 ∧ (∀ j, j ≠ 12 → j ≠ 13 → mx_i h1 100 j = mx_i h 100 j) ∧ ∀ f c, f < 12 → c ≤ 12 → mx_i h 100 12 = nI f → mx_i h 100 13 = nI c → ∃ f' c' : Nat, f' < 12 ∧ mx_i h1 100 12 = nI f' ∧ mx_i h1 100 13 = nI c' ∧ (c < 12 → f' = f ∧ c' = c + 1) ∧ (c = 12 → f' = (f + 1) % 12 ∧ c' = 12) ∧ (∀ b, 189 ≤ b → b < 381 → ¬ (189 + 16 * ((f + c) % 12) ≤ b ∧ b < 189 + 16 * ((f + c) % 12) + 16) → mx_i h1 b = mx_i h b) ∧ ∀ k j, inV k j → mx_i h1 (189 + 16 * ((f + c) % 12) + k) j = mx_i h (vn + k) j
section
variable {d : Nat} {h : mxH} {Q : mxO → mxH → Prop} {vn vd vr vq : Nat}
theorem rem12 {n : Nat} (hn : n < 1000) : nI n - nI n / 12 * 12 = nI (n % 12) := pk_rem (d := 12) (by omega) (by decide) (by decide)
theorem sp_182 (G : mxG h) (S : mxS h vn vd vr vq) (hf : cB (mx_i h 100 12) 11) (hc : cB (mx_i h 100 13) 12) (k : ∀ h1, rmC vn h h1 → Q (.inl none) h1) : mx_wp (d + 2) 182 0 (mx_fr 182 [.ref 100]) [] h Q := by
  obtain ⟨f, hf, ef⟩ := hf
  obtain ⟨c, hc, ec⟩ := hc
  have hvn : vn = 119 ∨ vn = 135 := by have := S.2.2.2.2.1; omega
  refine tr_182_0 G S ⟨fun c12 h15 e15 h19 e19 => ?_, fun c12 => ?_⟩
  · have hcc : c = 12 := by rw [ec] at c12; exact (nI_eq (by omega) (by decide)).mp c12
    subst hcc
    have a12 : mx_i h15 100 12 = nI ((f + 1) % 12) := by rw [e15, wi_at rfl rfl, ef, nI_1, rem12 (by omega)]
    have b12 : mx_i h19 100 12 = nI ((f + 1) % 12) := by rw [e19, wi_nj (by decide)]; exact a12
    have b13 : mx_i h19 100 13 = nI 11 := by rw [e19, wi_at rfl rfl, e15, wi_nj (by decide), ec]; decide
    have hm : ((f + 1) % 12 + 11) % 12 = f := by omega
    have hmod := Nat.mod_lt (f + 1) (show 12 > 0 by decide)
    rw [b12, b13, nI_add, rem12 (by omega), hm]
    refine ⟨vp_in_nI (by omega) (by decide), fun vk ek h28 cp h32 e32 => ?_⟩
    rw [nI_clamp (by omega)] at ek
    subst ek
    have o19 : ∀ b, b ≠ 100 → mx_i h19 b = mx_i h b := fun b hb => by rw [e19, wi_ne hb, e15, wi_ne hb]
    have o28 : mx_i h28 100 = mx_i h19 100 := mxU_i cp.1 (by omega)
    refine k h32 ⟨?_, fun j j1 j2 => ?_, fun f0 c0 hf0 hc0 ef0 ec0 => ?_⟩
    · refine mxU_tr (mxU_wi' e15 (.inl rfl)) (mxU_tr (mxU_wi' e19 (.inl rfl)) (mxU_tr (mxU_mono (fun b hb => ?_) cp.1) (mxU_wi' e32 (.inl rfl))))
      omega
    · rw [e32, wi_nj j2, o28, e19, wi_nj j2, e15, wi_nj j1]
    · have h1 : f0 = f := (nI_eq (by omega) (by omega)).mp (ef0.symm.trans ef)
      have h2 : c0 = 12 := (nI_eq (by omega) (by omega)).mp (ec0.symm.trans ec)
      subst h1 h2
      have hw : (f0 + 12) % 12 = f0 := by omega
      rw [hw]
      refine ⟨(f0 + 1) % 12, 12, by omega, ?_, ?_, by omega, fun _ => ⟨rfl, rfl⟩, fun b b1 b2 b3 => ?_, fun q j hq => ?_⟩
      · rw [e32, wi_nj (by decide), o28]; exact b12
      · rw [e32, wi_at rfl rfl, o28, b13]; decide
      · rw [e32, wi_ne (by omega), mxU_i cp.1 (by omega), o19 b (by omega)]
      · rw [e32, wi_ne (by omega), cp.2 q j hq (by omega) (by unfold inV at hq; omega), o19 _ (by omega)]
  · have hcc : c < 12 := by
      rcases Nat.lt_or_ge c 12 with q | q
      · exact q
      · exact absurd (by rw [ec, show c = 12 by omega]; rfl) c12
    rw [ef, ec, nI_add, rem12 (by omega)]
    have hmod := Nat.mod_lt (f + c) (show 12 > 0 by decide)
    refine ⟨vp_in_nI (by omega) (by decide), fun vk ek h28 cp h32 e32 => ?_⟩
    rw [nI_clamp (by omega)] at ek
    subst ek
    have o28 : mx_i h28 100 = mx_i h 100 := mxU_i cp.1 (by omega)
    refine k h32 ⟨?_, fun j j1 j2 => ?_, fun f0 c0 hf0 hc0 ef0 ec0 => ?_⟩
    · refine mxU_tr (mxU_mono (fun b hb => ?_) cp.1) (mxU_wi' e32 (.inl rfl))
      omega
    · rw [e32, wi_nj j2, o28]
    · have h1 : f0 = f := (nI_eq (by omega) (by omega)).mp (ef0.symm.trans ef)
      have h2 : c0 = c := (nI_eq (by omega) (by omega)).mp (ec0.symm.trans ec)
      subst h1 h2
      refine ⟨f0, c0 + 1, by omega, ?_, ?_, fun _ => ⟨rfl, rfl⟩, by omega, fun b b1 b2 b3 => ?_, fun q j hq => ?_⟩
      · rw [e32, wi_nj (by decide), o28]; exact ef
      · rw [e32, wi_at rfl rfl, o28, ec, nI_1]
      · rw [e32, wi_ne (by omega), mxU_i cp.1 (by omega)]
      · rw [e32, wi_ne (by omega), cp.2 q j hq (by omega) (by unfold inV at hq; omega)]
theorem sp_183 (G : mxG h) (S : mxS h vn vd vr vq) (k : Q (.inl none) (mx_wi h 100 13 0)) : mx_wp d 183 0 (mx_fr 183 [.ref 100]) [] h Q := tr_183_0 G S (fun h1 e1 => by subst e1; exact k)
end
/-! new stones -/
theorem nI_ne1 {n : Nat} (hn : n < 2 ^ 31) : ¬ nI n = -1 := fun q => absurd (nI_pos hn) (by rw [q]; decide)
/-- a new stone's row -/
def adS (a : Nat) (i1 i2 i3 i4 : Int32) (h : mxH) (x : Int32) (h1 : mxH) : Prop := mxU (fun b => a + 7 ≤ b ∧ b ≤ a + 12) h h1 ∧ ∀ n, n ≤ 10 → mx_i h (a + 7) 0 = nI n → (n = 10 → x = -1 ∧ h1 = h) ∧ (n < 10 → x = nI n ∧ (∀ j, mx_i h1 (a + 7) j = if j = 0 then nI (n + 1) else mx_i h (a + 7) j) ∧ (∀ j, mx_i h1 (a + 8) j = if j = n then i2 else mx_i h (a + 8) j) ∧ (∀ j, mx_i h1 (a + 9) j = if j = n then i3 else mx_i h (a + 9) j) ∧ (∀ j, mx_i h1 (a + 10) j = if j = n then i1 else mx_i h (a + 10) j) ∧ (∀ j, mx_i h1 (a + 11) j = if j = n then 0 else mx_i h (a + 11) j) ∧ (∀ j, mx_i h1 (a + 12) j = if j = n then i4 else mx_i h (a + 12) j))
theorem wi_row {h : mxH} {a j k : Nat} {v : Int32} : mx_i (mx_wi h a k v) a j = if j = k then v else mx_i h a j := by
  rw [wi_i]
  by_cases c : j = k
  · rw [if_pos ⟨rfl, c⟩, if_pos c]
  · rw [if_neg (fun q => c q.2), if_neg c]
section
variable {a : Nat} {s : mxH} {k : Nat} {v : Int32}
theorem w7_8 : mx_i (mx_wi s (a + 8) k v) (a + 7) 0 = mx_i s (a + 7) 0 := by rw [wi_ne (by omega)]
theorem w7_9 : mx_i (mx_wi s (a + 9) k v) (a + 7) 0 = mx_i s (a + 7) 0 := by rw [wi_ne (by omega)]
theorem w7_10 : mx_i (mx_wi s (a + 10) k v) (a + 7) 0 = mx_i s (a + 7) 0 := by rw [wi_ne (by omega)]
theorem w7_11 : mx_i (mx_wi s (a + 11) k v) (a + 7) 0 = mx_i s (a + 7) 0 := by rw [wi_ne (by omega)]
theorem w7_12 : mx_i (mx_wi s (a + 12) k v) (a + 7) 0 = mx_i s (a + 7) 0 := by rw [wi_ne (by omega)]
theorem w7_7 : mx_i (mx_wi s (a + 7) 0 v) (a + 7) 0 = v := wi_at rfl rfl
end
theorem W68 {h : mxH} {a n : Nat} {i1 i2 i3 i4 : Int32} (e : mx_i h (a + 7) 0 = nI n) (hn : n < 10) : V_68 h a i1 i2 i3 i4 = nI n ∧ W_68 h a i1 i2 i3 i4 = mx_wi (mx_wi (mx_wi (mx_wi (mx_wi (mx_wi h (a + 10) n i1) (a + 8) n i2) (a + 9) n i3) (a + 11) n 0) (a + 12) n i4) (a + 7) 0 (nI (n + 1)) := by
  have c : V_67 h a = 0 := by unfold V_67; rw [e, if_pos (show nI n < 10 from (nI_ltI (b := 10) (by omega) (by decide)).mpr hn)]
  have cl : (nI n).toNatClampNeg = n := nI_clamp (by omega)
  unfold V_68 W_68
  rw [if_pos c, if_pos c]
  simp only [w7_8, w7_9, w7_10, w7_11, w7_12, w7_7, e, cl]
  refine ⟨?_, by rw [nI_1]⟩
  exact Int32.add_sub_cancel _ _
theorem W68f {h : mxH} {a : Nat} {i1 i2 i3 i4 : Int32} (e : mx_i h (a + 7) 0 = nI 10) : V_68 h a i1 i2 i3 i4 = -1 ∧ W_68 h a i1 i2 i3 i4 = h := by
  have c : ¬ V_67 h a = 0 := by unfold V_67; rw [e, if_neg (by decide)]; decide
  unfold V_68 W_68
  rw [if_neg c, if_neg c]
  exact ⟨rfl, rfl⟩
theorem W68s {h : mxH} {a : Nat} {i1 i2 i3 i4 : Int32} (hc : cB (mx_i h (a + 7) 0) 10) : adS a i1 i2 i3 i4 h (V_68 h a i1 i2 i3 i4) (W_68 h a i1 i2 i3 i4) := by
  obtain ⟨n, hn, e⟩ := hc
  by_cases q : n < 10
  · obtain ⟨e1, e2⟩ := W68 (i1 := i1) (i2 := i2) (i3 := i3) (i4 := i4) e q
    rw [e1, e2]
    refine ⟨?_, fun m hm em => ?_⟩
    · exact mxU_tr (mxU_wi (by omega)) (mxU_tr (mxU_wi (by omega)) (mxU_tr (mxU_wi (by omega)) (mxU_tr (mxU_wi (by omega)) (mxU_tr (mxU_wi (by omega)) (mxU_wi (by omega))))))
    · have hmn : m = n := (nI_eq (by omega) (by omega)).mp (em.symm.trans e)
      subst hmn
      refine ⟨fun c => absurd c (by omega), fun _ => ⟨rfl, fun j => ?_, fun j => ?_, fun j => ?_, fun j => ?_, fun j => ?_, fun j => ?_⟩⟩
      · rw [wi_row, wi_ne (by omega), wi_ne (by omega), wi_ne (by omega), wi_ne (by omega), wi_ne (by omega)]
      · rw [wi_ne (by omega), wi_ne (by omega), wi_ne (by omega), wi_ne (by omega), wi_row, wi_ne (by omega)]
      · rw [wi_ne (by omega), wi_ne (by omega), wi_ne (by omega), wi_row, wi_ne (by omega), wi_ne (by omega)]
      · rw [wi_ne (by omega), wi_ne (by omega), wi_ne (by omega), wi_ne (by omega), wi_ne (by omega), wi_row]
      · rw [wi_ne (by omega), wi_ne (by omega), wi_row, wi_ne (by omega), wi_ne (by omega), wi_ne (by omega)]
      · rw [wi_ne (by omega), wi_row, wi_ne (by omega), wi_ne (by omega), wi_ne (by omega), wi_ne (by omega)]
  · have : n = 10 := by omega
    subst this
    obtain ⟨e1, e2⟩ := W68f (i1 := i1) (i2 := i2) (i3 := i3) (i4 := i4) e
    rw [e1, e2]
    refine ⟨mxU_rfl, fun m hm em => ?_⟩
    have hmn : m = 10 := (nI_eq (by omega) (by omega)).mp (em.symm.trans e)
    exact ⟨fun _ => ⟨rfl, rfl⟩, fun c => absurd c (by omega)⟩
theorem V67n {h : mxH} {a n : Nat} (hn : n ≤ 10) (e : mx_i h (a + 7) 0 = nI n) (c : V_67 h a = 0) : n < 10 := by
  by_cases q : n < 10
  · exact q
  · unfold V_67 at c
    rw [e, if_neg (show ¬ nI n < 10 from fun z => q ((nI_ltI (b := 10) (by omega) (by decide)).mp z))] at c
    exact absurd c (by decide)
theorem spn_68 {d : Nat} {h : mxH} {Q : mxO → mxH → Prop} {a : Nat} {i1 i2 i3 i4 : Int32} (G : mxG h) (hVa : (mxT a).1 = 9) (hc : cB (mx_i h (a + 7) 0) 10) (k : ∀ x h1, adS a i1 i2 i3 i4 h x h1 → Q (.inl (some (.int x))) h1) : mx_wp (d + 1) 68 0 (mx_fr 68 [.ref (a + 7), .int i1, .int i2, .int i3, .int i4]) [] h Q := by
  refine sp_68 G hVa ⟨fun c => ?_, fun _ => trivial⟩ (k _ _ (W68s hc))
  obtain ⟨n, hn, e⟩ := hc
  have vp : vp_in (nI n) 10 := vp_in_nI (V67n hn e c) (by decide)
  simp only [w7_8, w7_9, w7_10, w7_11, w7_12, e]
  exact ⟨vp, vp, vp, vp, vp, trivial⟩
/-- a stone in two -/
def brS (a : Nat) (i1 : Int32) (h : mxH) (x : Int32) (h1 : mxH) : Prop := mxU (fun b => a + 7 ≤ b ∧ b ≤ a + 12) h h1 ∧ ∀ n z, n ≤ 10 → z < n → i1 = nI z → mx_i h (a + 7) 0 = nI n → (n = 10 → x = -1 ∧ h1 = h) ∧ (n < 10 → x = nI n ∧ (∀ j, mx_i h1 (a + 7) j = if j = 0 then nI (n + 1) else mx_i h (a + 7) j) ∧ (∀ j, mx_i h1 (a + 8) j = if j = n then mx_i h (a + 8) z else mx_i h (a + 8) j) ∧ (∀ j, mx_i h1 (a + 9) j = if j = n then mx_i h (a + 9) z else mx_i h (a + 9) j) ∧ (∀ j, mx_i h1 (a + 10) j = if j = z then mx_i h (a + 10) z - mx_i h (a + 10) z / 2 else if j = n then mx_i h (a + 10) z / 2 else mx_i h (a + 10) j) ∧ (∀ j, mx_i h1 (a + 11) j = if j = n then mx_i h (a + 11) z else mx_i h (a + 11) j) ∧ (∀ j, mx_i h1 (a + 12) j = if j = n then mx_i h (a + 12) z else mx_i h (a + 12) j))
theorem spn_69 {d : Nat} {h : mxH} {Q : mxO → mxH → Prop} {a : Nat} {i1 : Int32} (G : mxG h) (hVa : (mxT a).1 = 9) (hc : cB (mx_i h (a + 7) 0) 10) (hi : isI i1 (mx_i h (a + 7) 0)) (k : ∀ x h1, brS a i1 h x h1 → Q (.inl (some (.int x))) h1) : mx_wp (d + 2) 69 0 (mx_fr 69 [.ref (a + 7), .int i1]) [] h Q := by
  have hc' := hc
  obtain ⟨n, hn, e⟩ := hc
  rw [e] at hi
  obtain ⟨z, hz, rfl⟩ := isI_nI (by omega) hi
  have clz : (nI z).toNatClampNeg = z := nI_clamp (by omega)
  have S := W68s (i1 := mx_i h (a + 10) z / 2) (i2 := mx_i h (a + 8) z) (i3 := mx_i h (a + 9) z) (i4 := mx_i h (a + 12) z) hc'
  refine sp_69 G hVa (vp_in_nI (by omega) (by decide)) ⟨fun c => ?_, fun _ => trivial⟩ ⟨fun _ => trivial, fun c => ?_⟩ (k _ _ ?_)
  · have vp : vp_in (nI n) 10 := vp_in_nI (V67n hn e c) (by decide)
    simp only [w7_8, w7_9, w7_10, w7_11, w7_12, e]
    exact ⟨vp, vp, vp, vp, vp, trivial⟩
  · rw [clz] at c ⊢
    by_cases q : n < 10
    · rw [((S.2 n hn e).2 q).1]; exact ⟨vp_in_nI q (by decide), trivial⟩
    · exact absurd ((S.2 n hn e).1 (by omega)).1 c
  · unfold V_69 W_69
    rw [clz]
    by_cases q : n < 10
    · obtain ⟨s1, s7, s8, s9, s10, s11, s12⟩ := (S.2 n hn e).2 q
      have u := S.1
      rw [s1]
      generalize W_68 h a (mx_i h (a + 10) z / 2) (mx_i h (a + 8) z) (mx_i h (a + 9) z) (mx_i h (a + 12) z) = h3 at s7 s8 s9 s10 s11 s12 u ⊢
      rw [if_neg (nI_ne1 (by omega)), nI_clamp (by omega)]
      refine ⟨mxU_tr u (mxU_tr (mxU_wi (by omega)) (mxU_wi (by omega))), fun m y hm hy ey em => ?_⟩
      have hmn : m = n := (nI_eq (by omega) (by omega)).mp (em.symm.trans e)
      have hyz : z = y := (nI_eq (by omega) (by omega)).mp ey
      subst hmn
      subst hyz
      refine ⟨fun c => absurd c (by omega), fun _ => ⟨rfl, fun j => ?_, fun j => ?_, fun j => ?_, fun j => ?_, fun j => ?_, fun j => ?_⟩⟩
      · rw [wi_ne (by omega), wi_ne (by omega), s7]
      · rw [wi_ne (by omega), wi_ne (by omega), s8]
      · rw [wi_ne (by omega), wi_ne (by omega), s9]
      · rw [wi_row, wi_ne (by omega), s10, if_neg (show ¬ z = m by omega), s10]
      · rw [wi_ne (by omega), wi_row, s11, s11, if_neg (show ¬ z = m by omega)]
        by_cases c : j = m
        · rw [if_pos c, if_pos c]
        · rw [if_neg c, if_neg c, if_neg c]
      · rw [wi_ne (by omega), wi_ne (by omega), s12]
    · have e10 : n = 10 := by omega
      obtain ⟨f1, f2⟩ := (S.2 n hn e).1 e10
      rw [f1, f2, if_pos rfl]
      refine ⟨mxU_rfl, fun m y hm hy ey em => ?_⟩
      have hmn : m = n := (nI_eq (by omega) (by omega)).mp (em.symm.trans e)
      exact ⟨fun _ => ⟨rfl, rfl⟩, fun c => absurd c (by omega)⟩
