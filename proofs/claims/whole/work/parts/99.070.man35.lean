/-! ROWS OF WEIGHINGS -/
def scR (T : Nat → Int32) (np k : Nat) : Prop := T (3 * k) < nI np ∧ T (3 * k + 1) < nI np ∧ ¬ T (3 * k) = T (3 * k + 1) ∧ T (3 * k + 2) < 3
def scG (T : Nat → Int32) (n np : Nat) : Prop := n % 3 = 0 ∧ n ≤ 36 ∧ ∀ k, k < n / 3 → scR T np k
def tpT (h : mxH) : Nat → Int32 := fun k => mx_i h 102 k &&& 255
def tapB (h : mxH) : Prop := ∃ n : Nat, n ≤ 400 ∧ mx_i h 101 1 = nI n ∧ ∀ k, k < n → isR (tpT h k) 0 255
def p54 (a : Nat) (h : mxH) (x : Int32) (h1 : mxH) : Prop := mxU (fun c => c = 117 ∨ c = 118) h h1 ∧ ∀ n np : Nat, n ≤ 400 → np ≤ 6 → mx_i h 101 1 = nI n → mx_i h (a + 1) 0 = nI np → (scG (tpT h) n np ∧ x = 1 ∧ mx_i h1 117 1 = nI (n / 3) ∧ ∀ k, k < n → mx_i h1 118 k = tpT h k) ∨ (¬ scG (tpT h) n np ∧ x = 0)
theorem nI_3 {k : Nat} : nI k * 3 = nI (3 * k) := by
  unfold nI
  rw [Nat.mul_comm, Int32.ofNat_mul]; rfl
theorem nI_m3 {n : Nat} (hn : n < 2 ^ 31) : (nI n - nI n / 3 * 3 = 0) = (n % 3 = 0) := by
  rw [show (3 : Int32) = nI 3 from rfl, nI_div hn (by omega) (by omega), show nI (n / 3) * nI 3 = nI (3 * (n / 3)) from nI_3, nI_sb (by omega)]
  apply propext
  constructor
  · intro q
    have := (nI_eq (a := n - 3 * (n / 3)) (b := 0) (by omega) (by decide)).mp q
    omega
  · intro q
    rw [show n - 3 * (n / 3) = 0 by omega]; rfl
section
variable {d : Nat} {h : mxH} {Q : mxO → mxH → Prop} {a : Nat}
theorem H54b {n np m : Nat} {T : Nat → Int32} (hVa : (mxT a).1 = 9) (G : mxG h) (hp : mx_i h (a + 1) 0 = nI np) (hm : m ≤ 12) (hn : n / 3 = m) (hn3 : n % 3 = 0) (e1 : mx_i h 117 1 = nI m) (e : ∀ k, k < n → mx_i h 118 k = T k) (hT : ∀ k, k < n → isR (T k) 0 255) (q1 : (∀ k, k < m → scR T np k) → Q (.inl (some (.int 1))) h) (q0 : ¬ (∀ k, k < m → scR T np k) → Q (.inl (some (.int 0))) h) : ∀ j i, i + j = m → (∀ k, k < i → scR T np k) → H_54_39 (d + 2) h a (nI i) Q := by
  intro j
  induction j with
  | zero =>
    intro i hi ak
    refine tr_54_39 G hVa ⟨fun c => ?_, fun _ => q1 (fun k hk => ak k (by omega))⟩
    rw [e1, show i = m by omega] at c
    exact absurd c Int32.lt_irrefl
  | succ j ih =>
    intro i hi ak
    have z0 : (nI i * 3).toNatClampNeg = 3 * i := by rw [nI_3, nI_clamp (by omega)]
    have z1 : (nI i * 3 + 1).toNatClampNeg = 3 * i + 1 := by rw [nI_3, nI_1, nI_clamp (by omega)]
    have z2 : (nI i * 3 + 2).toNatClampNeg = 3 * i + 2 := by rw [nI_3, show (2 : Int32) = nI 2 from rfl, nI_add, nI_clamp (by omega)]
    have g0 : vp_in (nI i * 3) 36 := by rw [nI_3]; exact vp_in_nI (by omega) (by decide)
    have g1 : vp_in (nI i * 3 + 1) 36 := by rw [nI_3, nI_1]; exact vp_in_nI (by omega) (by decide)
    have g2 : vp_in (nI i * 3 + 2) 36 := by rw [nI_3, show (2 : Int32) = nI 2 from rfl, nI_add]; exact vp_in_nI (by omega) (by decide)
    have t0 := (hT (3 * i) (by omega)).1
    have t1 := (hT (3 * i + 1) (by omega)).1
    have ev : V_55 h (nI i) a = 0 ↔ ¬ scR T np i := by
      unfold V_55 V_44 scR
      rw [z0, z1, z2, e _ (by omega), e _ (by omega), e _ (by omega), hp]
      generalize T (3 * i) = x at *
      generalize T (3 * i + 1) = y at *
      generalize T (3 * i + 2) = z at *
      generalize nI np = p at *
      clear ih q1 q0 e hT ak
      grind
    refine tr_54_39 G hVa ⟨fun _ => ⟨g0, g1, ⟨fun _ => trivial, fun _ => ⟨fun _ => trivial, fun _ => ⟨fun _ => trivial, fun _ => ⟨g2, trivial⟩⟩⟩⟩, fun v => ?_, fun v => ?_⟩, fun c => absurd (by rw [e1]; exact nI_lt (by omega) (by omega)) c⟩
    · exact q0 (fun r => ev.mp v (r i (by omega)))
    · rw [nI_1]
      have r : scR T np i := Classical.byContradiction (fun w => v (ev.mpr w))
      refine ih (i + 1) (by omega) (fun k hk => ?_)
      by_cases c : k = i
      · rw [c]; exact r
      · exact ak k (by omega)
theorem sp_54 (G : mxG h) (hVa : (mxT a).1 = 9) (x0 : tapB h) (x1 : cB (mx_i h (a + 1) 0) 6) (k : ∀ x h1, p54 a h x h1 → Q (.inl (some (.int x))) h1) : mx_wp (d + 2) 54 0 (mx_fr 54 [.ref 117, .ref 101, .ref a]) [] h Q := by
  have ga := va_gt hVa
  obtain ⟨n, hn, en, bT⟩ := x0
  obtain ⟨np, hp, ep⟩ := x1
  have fin : ∀ x h1, mxU (fun c => c = 117 ∨ c = 118) h h1 → ((scG (tpT h) n np ∧ x = 1 ∧ mx_i h1 117 1 = nI (n / 3) ∧ ∀ k, k < n → mx_i h1 118 k = tpT h k) ∨ (¬ scG (tpT h) n np ∧ x = 0)) → Q (.inl (some (.int x))) h1 := by
    intro x h1 u w
    refine k x h1 ⟨u, fun n' np' hn' hp' en' ep' => ?_⟩
    have a1 : n' = n := (nI_eq (by omega) (by omega)).mp (en'.symm.trans en)
    have a2 : np' = np := (nI_eq (by omega) (by omega)).mp (ep'.symm.trans ep)
    rw [a1, a2]; exact w
  refine tr_54_0 G hVa (fun h1 e1 => ?_)
  have U1 : mxU (fun c => c = 117 ∨ c = 118) h h1 := mxU_wi' e1 (.inl rfl)
  have G1 : mxG h1 := mxU_G U1 G
  rw [mxU_i U1 (b := 101) (by decide), en, nI_m3 (by omega), show (36 : Int32) = nI 36 from rfl, nI_lt_iff (by omega) (by omega)]
  refine ⟨fun c => fin 0 h1 U1 (.inr ⟨fun g => absurd g.2.1 (by omega), rfl⟩), fun c => ⟨fun c3 => ?_, fun c3 => fin 0 h1 U1 (.inr ⟨fun g => c3 g.1, rfl⟩)⟩⟩
  have L : ∀ j i h2, i + j = n → mxU (fun c => c = 117 ∨ c = 118) h h2 → (∀ k, k < i → mx_i h2 118 k = tpT h k) → H_54_18 (d + 2) h2 a (nI i) Q := by
    intro j
    induction j with
    | zero =>
      intro i h2 hi U e
      have hin : i = n := by omega
      subst hin
      refine tr_54_18 (mxU_G U G) hVa ⟨fun q => ?_, fun _ h3 e3 => ?_⟩
      · rw [mxU_i U (b := 101) (by decide), en] at q
        exact absurd q Int32.lt_irrefl
      · have U3 : mxU (fun c => c = 117 ∨ c = 118) h h3 := mxU_tr U (mxU_wi' e3 (.inl rfl))
        rw [mxU_i U (b := 101) (by decide), en, show (3 : Int32) = nI 3 from rfl, nI_div (by omega) (by omega) (by omega)] at e3
        have f1 : mx_i h3 117 1 = nI (i / 3) := by rw [e3, wi_at rfl rfl]
        have f2 : ∀ k, k < i → mx_i h3 118 k = tpT h k := fun k hk => by rw [e3, wi_ne (by decide)]; exact e k hk
        refine H54b (n := i) (np := np) (m := i / 3) (T := tpT h) hVa (mxU_G U3 G) (by rw [mxU_i U3 (by omega)]; exact ep) (by omega) rfl c3 f1 f2 bT (fun w => ?_) (fun w => ?_) (i / 3) 0 (by omega) (fun k hk => by omega)
        · exact fin 1 h3 U3 (.inl ⟨⟨c3, by omega, w⟩, rfl, f1, f2⟩)
        · exact fin 0 h3 U3 (.inr ⟨fun g => w g.2.2, rfl⟩)
    | succ j ih =>
      intro i h2 hi U e
      refine tr_54_18 (mxU_G U G) hVa ⟨fun _ => ⟨⟨fun _ => trivial, fun _ => ⟨fun _ => ⟨vp_in_nI (by omega) (by decide), trivial⟩, fun _ => trivial⟩⟩, vp_in_nI (by omega) (by decide), fun h7 e7 => ?_⟩, fun q => absurd (by rw [mxU_i U (b := 101) (by decide), en]; exact nI_lt (by omega) (by omega)) q⟩
      have ev : V_87 h2 (nI i) = tpT h i := by
        unfold V_87
        rw [if_neg (nI_pos (by omega)), mxU_i U (b := 101) (by decide), en, if_pos (nI_lt (by omega) (by omega)), mxU_i U (b := 102) (by decide), nI_clamp (by omega)]
        rfl
      rw [ev, nI_clamp (by omega)] at e7
      rw [nI_1]
      refine ih (i + 1) h7 (by omega) (mxU_tr U (mxU_wi' e7 (.inr rfl))) (fun k hk => ?_)
      by_cases c : k = i
      · rw [e7, wi_at rfl c, c]
      · rw [e7, wi_nj c]; exact e k (by omega)
  exact L n 0 h1 (by omega) U1 (fun k hk => by omega)
end
/-! ALL ROWS FIT -/
def fitC (h : mxH) (i1 : Int32) (a k : Nat) : Prop := V_59 h i1 a (mx_i h 118 (3 * k)) (mx_i h 118 (3 * k + 1)) = mx_i h 118 (3 * k + 2)
def fitB (h : mxH) (i1 : Int32) (a m : Nat) : Bool := (List.range m).all (fun k => decide (V_59 h i1 a (mx_i h 118 (3 * k)) (mx_i h 118 (3 * k + 1)) = mx_i h 118 (3 * k + 2)))
def V_58 (h : mxH) (i1 : Int32) (a : Nat) : Int32 := if fitB h i1 a (mx_i h 117 1).toNatClampNeg = true then 1 else 0
theorem fitB_iff {h : mxH} {i1 : Int32} {a m : Nat} : fitB h i1 a m = true ↔ ∀ k, k < m → fitC h i1 a k := by
  unfold fitB fitC
  rw [List.all_eq_true]
  constructor
  · intro w k hk
    exact of_decide_eq_true (w k (List.mem_range.mpr hk))
  · intro w k hk
    exact decide_eq_true (w k (List.mem_range.mp hk))
theorem sp_58 {d : Nat} {h : mxH} {Q : mxO → mxH → Prop} {i1 : Int32} {a : Nat} (G : mxG h) (hVa : (mxT a).1 = 9) (x0 : cB (mx_i h (a + 7) 0) 10) (x1 : cB (mx_i h 117 1) 12) (x2 : ¬ i1 < 0) (k : Q (.inl (some (.int (V_58 h i1 a)))) h) : mx_wp (d + 3) 58 0 (mx_fr 58 [.ref 117, .int i1, .ref a]) [] h Q := by
  obtain ⟨m, hm, em⟩ := x1
  unfold V_58 at k
  rw [em, nI_clamp (by omega)] at k
  refine tr_58_0 G hVa ?_
  have oi : (i1 < (mx_i h (a + 7) 0) → (vp_in i1 10 ∧ True)) ∧ (¬ i1 < (mx_i h (a + 7) 0) → True) := ⟨fun c => ⟨by
    obtain ⟨n, hn, e⟩ := x0
    rw [e] at c
    exact vp_of_isI (n := n) (by omega) (by omega) hn ⟨x2, c⟩, trivial⟩, fun _ => trivial⟩
  have L : ∀ j i, i + j = m → (∀ k, k < i → fitC h i1 a k) → H_58_2 (d + 3) h a i1 (nI i) Q := by
    intro j
    induction j with
    | zero =>
      intro i hi ak
      refine tr_58_2 G hVa ⟨fun c => ?_, fun _ => ?_⟩
      · rw [em, show i = m by omega] at c
        exact absurd c Int32.lt_irrefl
      · rw [if_pos (fitB_iff.mpr (fun k hk => ak k (by omega)))] at k
        exact k
    | succ j ih =>
      intro i hi ak
      have z0 : (nI i * 3).toNatClampNeg = 3 * i := by rw [nI_3, nI_clamp (by omega)]
      have z1 : (nI i * 3 + 1).toNatClampNeg = 3 * i + 1 := by rw [nI_3, nI_1, nI_clamp (by omega)]
      have z2 : (nI i * 3 + 2).toNatClampNeg = 3 * i + 2 := by rw [nI_3, show (2 : Int32) = nI 2 from rfl, nI_add, nI_clamp (by omega)]
      have g0 : vp_in (nI i * 3) 36 := by rw [nI_3]; exact vp_in_nI (by omega) (by decide)
      have g1 : vp_in (nI i * 3 + 1) 36 := by rw [nI_3, nI_1]; exact vp_in_nI (by omega) (by decide)
      have g2 : vp_in (nI i * 3 + 2) 36 := by rw [nI_3, show (2 : Int32) = nI 2 from rfl, nI_add]; exact vp_in_nI (by omega) (by decide)
      refine tr_58_2 G hVa ⟨fun _ => ⟨g0, g1, x0, oi, g2, fun v => ?_, fun v => ?_⟩, fun c => absurd (by rw [em]; exact nI_lt (by omega) (by omega)) c⟩
      · rw [nI_1]
        rw [z0, z1, z2] at v
        refine ih (i + 1) (by omega) (fun k hk => ?_)
        by_cases c : k = i
        · rw [c]; exact v
        · exact ak k (by omega)
      · rw [z0, z1, z2] at v
        rw [if_neg (fun w => v (fitB_iff.mp w i (by omega)))] at k
        exact k
  exact L m 0 (by omega) (fun k hk => by omega)
def V_64 (h : mxH) (a : Nat) (i2 i3 : Int32) : Int32 := (if (fo (F_64_8 h a i2 i3) 11 (0, 0, 0)).1 < (if (fo (F_64_8 h a i2 i3) 11 (0, 0, 0)).2.1 < (fo (F_64_8 h a i2 i3) 11 (0, 0, 0)).2.2 then (fo (F_64_8 h a i2 i3) 11 (0, 0, 0)).2.2 else (fo (F_64_8 h a i2 i3) 11 (0, 0, 0)).2.1) then (if (fo (F_64_8 h a i2 i3) 11 (0, 0, 0)).2.1 < (fo (F_64_8 h a i2 i3) 11 (0, 0, 0)).2.2 then (fo (F_64_8 h a i2 i3) 11 (0, 0, 0)).2.2 else (fo (F_64_8 h a i2 i3) 11 (0, 0, 0)).2.1) else (fo (F_64_8 h a i2 i3) 11 (0, 0, 0)).1)
theorem sp_64 {d : Nat} {h : mxH} {Q : mxO → mxH → Prop} {a : Nat} {i2 i3 : Int32} (G : mxG h) (hVa : (mxT a).1 = 9) (x0 : cB (mx_i h (a + 7) 0) 10) (k : Q (.inl (some (.int (V_64 h a i2 i3)))) h) : mx_wp (d + 3) 64 0 (mx_fr 64 [.ref 117, .ref a, .int i2, .int i3]) [] h Q := by
  refine tr_64_0 G hVa ?_
  refine lp_64_8 (s0 := (0, 0, 0)) (n := 11) 0 G hVa rfl (by omega) (by omega) (by omega) (fun z _ hz => ⟨⟨fun _ => ⟨x0, ⟨fun c => ⟨?_, trivial⟩, fun _ => trivial⟩, trivial⟩, fun _ => trivial⟩, trivial⟩) ?_
  · obtain ⟨n, hn, e⟩ := x0
    rw [e, nI_lt_iff (by omega) (by omega)] at c
    exact vp_in_nI (by omega) (by decide)
  · rw [fz_fo]; exact k
