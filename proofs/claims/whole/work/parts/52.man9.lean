/-! SPECS by hand, 9: the class's numbers; words at a place; the reference's signs, words -/
def p100 (lo hi : Int32) (h : mxH) (x : Int32) (h1 : mxH) : Prop := mvC h h1 ∧ ∀ T n p, Cl h T n p → (sk T n p < rn isDg T n (sk T n p) ∧ rn isDg T n (sk T n p) ≤ sk T n p + 3 ∧ ¬ dgs T (sk T n p) (rn isDg T n (sk T n p)) < lo ∧ ¬ hi < dgs T (sk T n p) (rn isDg T n (sk T n p)) ∧ x = dgs T (sk T n p) (rn isDg T n (sk T n p)) ∧ ¬ x = -1 ∧ Cl h1 T n (rn isDg T n (sk T n p))) ∨ (¬ (sk T n p < rn isDg T n (sk T n p) ∧ rn isDg T n (sk T n p) ≤ sk T n p + 3 ∧ ¬ dgs T (sk T n p) (rn isDg T n (sk T n p)) < lo ∧ ¬ hi < dgs T (sk T n p) (rn isDg T n (sk T n p))) ∧ x = -1 ∧ h1 = h)
theorem dg_b {x : Int32} (h : isDg x = true) : x.toInt8.toInt32 = x ∧ ∃ k : Nat, k < 10 ∧ x = nI (48 + k) := by
  have h := of_decide_eq_true h
  obtain ⟨k, hk, rfl⟩ := nI_of (x := x) (fun c => h.1 (by have := h.2; grind))
  have a : ¬ k < 48 := fun c => h.1 (nI_lt c (by decide))
  have b : ¬ 57 < k := fun c => h.2 (nI_lt (a := 57) c (by omega))
  exact ⟨(b255 k (by omega)).1 (by omega), k - 48, by omega, by rw [show 48 + (k - 48) = k by omega]⟩
theorem dgs_s {T : Nat → Int32} {p e : Nat} (h : p ≤ e) : dgs T p (e + 1) = 10 * dgs T p e + T e - 48 := by
  unfold dgs; rw [fz_s h]
theorem dgs_0 {T : Nat → Int32} {p : Nat} : dgs T p p = 0 := by unfold dgs; rw [fz_0]
/-- a number of j digits is below 10 ^ j -/
theorem dgs_nI {T : Nat → Int32} {p : Nat} : ∀ j, j ≤ 4 → (∀ i, i < j → isDg (T (p + i)) = true) → ∃ v : Nat, v < 10 ^ j ∧ dgs T p (p + j) = nI v := by
  intro j
  induction j with
  | zero => intro _ _; exact ⟨0, by decide, dgs_0⟩
  | succ j ih =>
    intro hj hd
    obtain ⟨v, hv, e⟩ := ih (by omega) (fun i hi => hd i (by omega))
    obtain ⟨-, k, hk, ek⟩ := dg_b (hd j (by omega))
    refine ⟨10 * v + k, ?_, ?_⟩
    · rw [Nat.pow_succ]; omega
    · rw [show p + (j + 1) = p + j + 1 by omega, dgs_s (by omega), e, ek, show (10 : Int32) = nI 10 from rfl, pk_mul, nI_add, show 10 * v + (48 + k) = 10 * v + k + 48 by omega, ← nI_add, show nI 48 = (48 : Int32) from rfl]
      grind
theorem dgs_congr {T T' : Nat → Int32} {p e : Nat} (h : ∀ k, p ≤ k → k < e → T k = T' k) (hp : p ≤ e) : dgs T p e = dgs T' p e := by
  obtain ⟨j, rfl⟩ : ∃ j, e = p + j := ⟨e - p, by omega⟩
  clear hp
  induction j with
  | zero => rw [Nat.add_zero, dgs_0, dgs_0]
  | succ j ih =>
    rw [show p + (j + 1) = p + j + 1 by omega, dgs_s (by omega), dgs_s (by omega), ih (fun k h1 h2 => h k h1 (by omega)), h (p + j) (by omega) (by omega)]
theorem V99_i {h : mxH} {T : Nat → Int32} {n p : Nat} (C : Cl h T n p) : V_99 h = if sk T n p < rn isDg T n (sk T n p) ∧ rn isDg T n (sk T n p) ≤ sk T n p + 3 then dgs T (sk T n p) (rn isDg T n (sk T n p)) else -1 := by
  obtain ⟨t, m, ht, hm, hn, e3, eb, ek, hl, es, hw, hW, mv⟩ := Cl_tk C
  unfold V_99
  rw [e3, nI_clamp (by omega), ek, eb, es]
  unfold kd
  by_cases q : sk T n p < n
  · rw [if_pos q, if_pos (hl.mp q)]
    have g := te_gt (T := T) q
    rw [nI_clamp (by omega), nI_clamp (by omega)]
    by_cases q2 : isDg (T (sk T n p)) = true
    · have et : te T n (sk T n p) = rn isDg T n (sk T n p) := by unfold te; rw [if_pos q2]
      rw [if_pos q2, if_pos rfl, et]
      rw [et] at g
      have c3 : (3 : Int32) < nI (rn isDg T n (sk T n p) - sk T n p) ↔ 3 < rn isDg T n (sk T n p) - sk T n p := nI_ltI (a := 3) (by decide) (by omega)
      by_cases q3 : rn isDg T n (sk T n p) ≤ sk T n p + 3
      · rw [if_neg (fun c => absurd (c3.mp c) (by omega)), if_pos ⟨g.1, q3⟩, Nat.add_sub_cancel' (by omega)]
        refine dgs_congr (fun k h1 h2 => ?_) (by omega)
        have := rn_in (sk T n p) k h1 h2
        rw [C.1.2.2.2 k this.1]
        exact (dg_b this.2).1
      · rw [if_pos (c3.mpr (by omega)), if_neg (fun c : sk T n p < rn isDg T n (sk T n p) ∧ rn isDg T n (sk T n p) ≤ sk T n p + 3 => q3 c.2)]
    · have z : ¬ ((if isLt (T (sk T n p)) = true then (3 : Int32) else 1) = 2) := by split <;> decide
      rw [if_neg q2, if_neg z, rn_n (fun c => q2 c.2), if_neg (fun c : sk T n p < sk T n p ∧ sk T n p ≤ sk T n p + 3 => absurd c.1 (by omega))]
  · rw [if_neg q, if_neg (by decide), rn_n (fun c => q c.1), if_neg (fun c : sk T n p < sk T n p ∧ sk T n p ≤ sk T n p + 3 => absurd c.1 (by omega))]
theorem spm_100 {d : Nat} {h : mxH} {Q : mxO → mxH → Prop} {i1 i2 : Int32} (G : mxG h) (x0 : okC h) (k : ∀ x h1, p100 i1 i2 h x h1 → Q (.inl (some (.int x))) h1) : mx_wp (d + 1) 100 0 (mx_fr 100 [.ref 101, .int i1, .int i2]) [] h Q := by
  obtain ⟨T, n, p, C⟩ := x0
  have key : ∀ T n p, Cl h T n p → ¬ V_99 h = -1 → sk T n p < rn isDg T n (sk T n p) ∧ rn isDg T n (sk T n p) ≤ sk T n p + 3 ∧ V_99 h = dgs T (sk T n p) (rn isDg T n (sk T n p)) := by
    intro T n p C c
    rw [V99_i C] at c ⊢
    by_cases z : sk T n p < rn isDg T n (sk T n p) ∧ rn isDg T n (sk T n p) ≤ sk T n p + 3
    · rw [if_pos z]; exact ⟨z.1, z.2, rfl⟩
    · rw [if_neg z] at c; exact absurd rfl c
  refine tr_100_0 G ⟨Cl_ok C, fun c => k _ h ⟨mvC_rfl, fun T' n' p' C' => .inr ⟨fun z => ?_, rfl, rfl⟩⟩, fun c => ⟨fun c2 => k _ h ⟨mvC_rfl, fun T' n' p' C' => .inr ⟨fun z => ?_, rfl, rfl⟩⟩, fun c2 => ⟨fun c3 => k _ h ⟨mvC_rfl, fun T' n' p' C' => .inr ⟨fun z => ?_, rfl, rfl⟩⟩, fun c3 h5 e5 => k _ h5 ⟨⟨_, e5⟩, fun T' n' p' C' => .inl ?_⟩⟩⟩⟩
  · rw [V99_i C', if_pos ⟨z.1, z.2.1⟩] at c
    have g : ∀ i, i < rn isDg T' n' (sk T' n' p') - sk T' n' p' → isDg (T' (sk T' n' p' + i)) = true := fun i hi => (rn_in (c := isDg) (T := T') (n := n') (sk T' n' p') (sk T' n' p' + i) (by omega) (by omega)).2
    obtain ⟨v, hv, e⟩ := dgs_nI _ (by omega) g
    rw [Nat.add_sub_cancel' (by omega)] at e
    rw [e] at c
    have : 10 ^ (rn isDg T' n' (sk T' n' p') - sk T' n' p') ≤ 10 ^ 3 := Nat.pow_le_pow_right (by decide) (by omega)
    exact absurd c (nI_ne1 (by omega))
  · rw [(key _ _ _ C' c).2.2] at c2; exact z.2.2.1 c2
  · rw [(key _ _ _ C' c).2.2] at c3; exact z.2.2.2 c3
  · have q := key _ _ _ C' c
    rw [q.2.2] at c c2 c3 ⊢
    refine ⟨q.1, q.2.1, c2, c3, rfl, c, ?_⟩
    obtain ⟨t', m', ht', hm', hn', e3', eb', ek', hl', es', hw', hW', mv'⟩ := Cl_tk C'
    have i := rn_in (sk T' n' p') _ (Nat.le_refl _) q.1
    have := mv' (hl'.mp i.1)
    unfold te at this
    rw [if_pos i.2] at this
    rw [e5]; exact this
/-- a string stands at a place of the tape -/
def V_92 (h : mxH) (s1 : Nat) (i2 : Int32) : Int32 := if ∀ i, i < mxSl (s1 + 1) → V_87 h (i2 + nI i) = mxSb (s1 + 1) i then 1 else 0
theorem v307 {h : mxH} {k : Nat} : V_307 h (30 + 2 * k) = nI (mxSl (31 + 2 * k)) := by
  unfold V_307 V_309
  rw [if_neg (by decide), show 30 + 2 * k + 1 = 31 + 2 * k by omega]
  generalize nI (mxSl (31 + 2 * k)) = x
  rw [show ((0 : Int32) &&& 31) = 0 from by decide]
  exact Int32.shiftRight_zero
theorem nb0 : narrow .byte (.int ((if (1 : Int32) = 0 then 1 else 0) : Int32)) = .int ((if (1 : Int32) = 0 then 1 else 0) : Int32) := by rw [if_neg (by decide)]; rfl
theorem st_ob {k : Nat} (hk : k < 26) : (30 ≤ 30 + 2 * k ∧ 30 + 2 * k < 82 ∧ (30 + 2 * k) % 2 = 0) ∧ (31 ≤ (30 + 2 * k + 1) ∧ (30 + 2 * k + 1) < 83 ∧ (30 + 2 * k + 1) % 2 = 1) ∧ (((1 : Int32) = 0 → True) ∧ (¬ (1 : Int32) = 0 → ((30 ≤ 30 + 2 * k ∧ 30 + 2 * k < 82 ∧ (30 + 2 * k) % 2 = 0) ∧ True))) := by
  refine ⟨by omega, by omega, fun _ => trivial, fun _ => ⟨by omega, trivial⟩⟩
theorem sp_92 {d : Nat} {h : mxH} {Q : mxO → mxH → Prop} {s1 : Nat} {i2 : Int32} (G : mxG h) (x0 : 30 ≤ s1 ∧ s1 < 82 ∧ s1 % 2 = 0) (x1 : cB i2 400) (x2 : cB (mx_i h 101 1) 400) (k : Q (.inl (some (.int (V_92 h s1 i2)))) h) : mx_wp (d + 4) 92 0 (mx_fr 92 [.ref 101, .ref s1, .int i2]) [] h Q := by
  obtain ⟨q, hq, rfl⟩ : ∃ q, q < 26 ∧ s1 = 30 + 2 * q := ⟨(s1 - 30) / 2, by omega, by omega⟩
  obtain ⟨b, hb, rfl⟩ := x1
  obtain ⟨l, hl, el⟩ := x2
  have s := sb_all q hq
  refine tr_92_0 G ?_
  have key : ∀ j, j ≤ mxSl (31 + 2 * q) → (∀ i, i < mxSl (31 + 2 * q) - j → V_87 h (nI b + nI i) = mxSb (31 + 2 * q) i) → H_92_2 (d + 4) h (30 + 2 * q) (nI b) (nI (mxSl (31 + 2 * q) - j)) Q := by
    intro j
    induction j with
    | zero =>
      intro _ hv
      refine tr_92_2 G ⟨(st_ob hq).1, (st_ob hq).2.1, (st_ob hq).2.2, nb0, fun c => ?_, fun _ => ?_⟩
      · rw [v307] at c; exact absurd ((nI_ltI (by omega) (by omega)).mp c) (by omega)
      · unfold V_92 at k
        rw [if_pos] at k
        · exact k
        · rw [show 30 + 2 * q + 1 = 31 + 2 * q by omega]; exact hv
    | succ j ih =>
      intro hj hv
      refine tr_92_2 G ⟨(st_ob hq).1, (st_ob hq).2.1, (st_ob hq).2.2, nb0, fun c => ⟨⟨fun _ => trivial, fun c0 => ⟨fun c1 => ⟨?_, trivial⟩, fun _ => trivial⟩⟩, ?_, fun c2 => ?_, fun c2 => ?_⟩, fun c => ?_⟩
      · rw [nI_add, el] at c1
        rw [nI_add]
        have := (nI_ltI (by omega) (by omega)).mp c1
        exact vp_in_nI (by omega) (by decide)
      · rw [show 30 + 2 * q + 1 = 31 + 2 * q by omega]; exact vp_in_nI (by omega) (by omega)
      · have := ih (by omega) (fun i hi => ?_)
        · rw [nI_1, show mxSl (31 + 2 * q) - (j + 1) + 1 = mxSl (31 + 2 * q) - j by omega]; exact this
        · by_cases z : i < mxSl (31 + 2 * q) - (j + 1)
          · exact hv i z
          · rw [show i = mxSl (31 + 2 * q) - (j + 1) by omega, c2]
            unfold V_308
            rw [nI_clamp (by omega), show 30 + 2 * q + 1 = 31 + 2 * q by omega]
      · unfold V_92 at k
        rw [if_neg] at k
        · exact k
        · intro z
          apply c2
          unfold V_308
          rw [nI_clamp (by omega)]
          rw [show 30 + 2 * q + 1 = 31 + 2 * q by omega] at z ⊢
          exact z _ (by omega)
      · rw [v307] at c; exact absurd (nI_lt (by omega) (by omega)) c
  have := key _ (Nat.le_refl _) (fun i hi => by omega)
  rw [Nat.sub_self] at this
  exact this
/-- the reference's sign, word, place -/
def p211 (c : Int32) (h : mxH) (x : Int32) (h1 : mxH) : Prop := mxK h h1 ∧ ∀ T n p, Rd h T n p → h1 = mx_wi h 381 11 (nI (sk T n p)) ∧ x = if sk T n p < n ∧ T (sk T n p) = c then 1 else 0
theorem sp_211 {d : Nat} {h : mxH} {Q : mxO → mxH → Prop} {i1 : Int32} (G : mxG h) (ok : okT h) (k : ∀ x h1, p211 i1 h x h1 → Q (.inl (some (.int x))) h1) : mx_wp (d + 2) 211 0 (mx_fr 211 [.ref 381, .int i1]) [] h Q := by
  obtain ⟨T, n, p, R⟩ := ok
  refine tr_211_0 G ⟨⟨T, n, p, R⟩, fun h3 u => ?_⟩
  have e := u.2 T n p R
  have R3 : Rd h3 T n (sk T n p) := by rw [e]; exact Rd_at R (rn_le R.2.1)
  have ea := R3.2.2.2.1
  refine ⟨⟨fun c => ?_, fun _ => trivial⟩, fun v6 e6 => k v6 h3 ⟨u.1, fun T' n' p' R' => ?_⟩⟩
  · rw [Rd_lt R3] at c
    rw [ea]
    exact ⟨Rd_ix R3 c, trivial⟩
  · obtain ⟨e1, e2, e3⟩ := Rd_uniq R R'
    rw [e1, e2, e3]
    refine ⟨e, ?_⟩
    rw [e6]
    simp only [Rd_lt R3]
    by_cases c : sk T n p < n
    · rw [if_pos c, ea, Rd_209 R3 c]
      simp [c]
    · rw [if_neg c, if_neg (fun z : sk T n p < n ∧ T (sk T n p) = i1 => c z.1)]
def p214 (h : mxH) (x : Int32) (h1 : mxH) : Prop := mxK h h1 ∧ ∀ T n p, Rd h T n p → h1 = mx_wi h 381 11 (nI (sk T n p)) ∧ x = nI (sk T n p)
theorem sp_214 {d : Nat} {h : mxH} {Q : mxO → mxH → Prop} (G : mxG h) (ok : okT h) (k : ∀ x h1, p214 h x h1 → Q (.inl (some (.int x))) h1) : mx_wp (d + 2) 214 0 (mx_fr 214 [.ref 381]) [] h Q := by
  refine tr_214_0 G ⟨ok, fun h3 u => k _ h3 ⟨u.1, fun T n p R => ⟨u.2 T n p R, ?_⟩⟩⟩
  rw [u.2 T n p R, wi_at rfl rfl]
def p212 (s1 : Nat) (h : mxH) (x : Int32) (h1 : mxH) : Prop := mxK h h1 ∧ ∀ T n p k, Rd h T n p → k < 26 → s1 = 30 + 2 * k → (isW T n k (sk T n p) = true ∧ x = 1 ∧ h1 = mx_wi h 381 11 (nI (sk T n p + mxSl (31 + 2 * k)))) ∨ (¬ isW T n k (sk T n p) = true ∧ x = 0 ∧ h1 = mx_wi h 381 11 (nI (sk T n p)))
theorem v191L {r : Nat → Int32} {x : Int32} : V_191 r x 97 122 = if isLt x = true then 1 else 0 := by
  unfold V_191 isLt
  by_cases a : x < 97
  · rw [if_pos a, if_neg (fun z => (of_decide_eq_true z).1 a)]
  · rw [if_neg a]
    by_cases b : 122 < x
    · rw [if_pos b, if_neg (fun z => (of_decide_eq_true z).2 b)]
    · rw [if_neg b, if_pos (decide_eq_true ⟨a, b⟩)]
theorem H212b {d n p q : Nat} {h : mxH} {T : Nat → Int32} {Q : mxO → mxH → Prop} (G : mxG h) (R : Rd h T n p) (hq : q < 26) (er : rn isLt T n p = p + mxSl (31 + 2 * q)) (k1 : isW T n q p = true → Q (.inl (some (.int 1))) (mx_wi h 381 11 (nI (p + mxSl (31 + 2 * q))))) (k0 : ¬ isW T n q p = true → Q (.inl (some (.int 0))) h) : H_212_29 (d + 4) h (30 + 2 * q) (nI (rn isLt T n p)) 0 Q := by
  have s := sb_all q hq
  have hn := R.1
  have hle : rn isLt T n p ≤ n := rn_le R.2.1
  have key : ∀ j, j ≤ mxSl (31 + 2 * q) → (∀ i, i < mxSl (31 + 2 * q) - j → T (p + i) = mxSb (31 + 2 * q) i) → H_212_29 (d + 4) h (30 + 2 * q) (nI (rn isLt T n p)) (nI (mxSl (31 + 2 * q) - j)) Q := by
    intro j
    induction j with
    | zero =>
      intro _ hv
      refine tr_212_29 G ⟨(st_ob hq).1, (st_ob hq).2.1, (st_ob hq).2.2, nb0, fun c => ?_, fun _ h6 e6 => ?_⟩
      · rw [v307] at c; exact absurd ((nI_ltI (by omega) (by omega)).mp c) (by omega)
      · rw [e6, er]
        exact k1 (decide_eq_true ⟨er, hv⟩)
    | succ j ih =>
      intro hj hv
      have hin : p + (mxSl (31 + 2 * q) - (j + 1)) < n := by omega
      refine tr_212_29 G ⟨(st_ob hq).1, (st_ob hq).2.1, (st_ob hq).2.2, nb0, fun c => ⟨?_, ?_, fun c2 => ?_, fun c2 => ?_⟩, fun c => ?_⟩
      · rw [R.2.2.2.1, nI_add]; exact Rd_ix R hin
      · rw [show 30 + 2 * q + 1 = 31 + 2 * q by omega]; exact vp_in_nI (by omega) (by omega)
      · rw [R.2.2.2.1, nI_add, Rd_209 R hin] at c2
        have := ih (by omega) (fun i hi => ?_)
        · rw [nI_1, show mxSl (31 + 2 * q) - (j + 1) + 1 = mxSl (31 + 2 * q) - j by omega]; exact this
        · by_cases z : i < mxSl (31 + 2 * q) - (j + 1)
          · exact hv i z
          · rw [show i = mxSl (31 + 2 * q) - (j + 1) by omega, c2]
            unfold V_308
            rw [nI_clamp (by omega), show 30 + 2 * q + 1 = 31 + 2 * q by omega]
      · rw [R.2.2.2.1, nI_add, Rd_209 R hin] at c2
        refine k0 (fun w => c2 ?_)
        have w := of_decide_eq_true w
        unfold V_308
        rw [nI_clamp (by omega), show 30 + 2 * q + 1 = 31 + 2 * q by omega]
        exact w.2 _ (by omega)
      · rw [v307] at c; exact absurd (nI_lt (by omega) (by omega)) c
  have := key _ (Nat.le_refl _) (fun i hi => by omega)
  rw [Nat.sub_self] at this
  exact this
theorem H212a {d n p q : Nat} {h : mxH} {T : Nat → Int32} {Q : mxO → mxH → Prop} (G : mxG h) (R : Rd h T n p) (hq : q < 26) (k1 : isW T n q p = true → Q (.inl (some (.int 1))) (mx_wi h 381 11 (nI (p + mxSl (31 + 2 * q))))) (k0 : ¬ isW T n q p = true → Q (.inl (some (.int 0))) h) : ∀ z, p ≤ z → z ≤ n → rn isLt T n z = rn isLt T n p → H_212_5 (d + 4) h (30 + 2 * q) (nI z) Q := by
  have s := sb_all q hq
  have hn := R.1
  have last : ∀ z, p ≤ z → z ≤ n → z = rn isLt T n p → (30 ≤ 30 + 2 * q ∧ 30 + 2 * q < 82 ∧ (30 + 2 * q) % 2 = 0) ∧ (31 ≤ (30 + 2 * q + 1) ∧ (30 + 2 * q + 1) < 83 ∧ (30 + 2 * q + 1) % 2 = 1) ∧ (((1 : Int32) = 0 → True) ∧ (¬ (1 : Int32) = 0 → ((30 ≤ 30 + 2 * q ∧ 30 + 2 * q < 82 ∧ (30 + 2 * q) % 2 = 0) ∧ True))) ∧ (narrow .byte (.int ((if (1 : Int32) = 0 then 1 else 0) : Int32)) = .int ((if (1 : Int32) = 0 then 1 else 0) : Int32)) ∧ (((nI z - (mx_i h 381 11)) = (V_307 h (30 + 2 * q)) → H_212_29 (d + 4) h (30 + 2 * q) (nI z) 0 Q) ∧ (¬ (nI z - (mx_i h 381 11)) = (V_307 h (30 + 2 * q)) → Q (.inl (some (.int 0))) h)) := by
    intro z hz1 hz2 ez
    have es : nI z - mx_i h 381 11 = nI (z - p) := by
      rw [R.2.2.2.1]
      obtain ⟨j, rfl⟩ : ∃ j, z = p + j := ⟨z - p, by omega⟩
      rw [← nI_add, show p + j - p = j by omega]
      grind
    refine ⟨(st_ob hq).1, (st_ob hq).2.1, (st_ob hq).2.2, nb0, fun c => ?_, fun c => ?_⟩
    · rw [es, v307] at c
      have := (nI_eq (by omega) (by omega)).mp c
      rw [ez]
      exact H212b G R hq (by omega) k1 k0
    · rw [es, v307] at c
      refine k0 (fun w => c ?_)
      have w := (of_decide_eq_true w).1
      rw [show z - p = mxSl (31 + 2 * q) by omega]
  intro z
  refine rn_ind (c := isLt) (T := T) (n := n) (P := fun z => p ≤ z → z ≤ n → rn isLt T n z = rn isLt T n p → H_212_5 (d + 4) h (30 + 2 * q) (nI z) Q) (fun z hz hc ih h1 h2 h3 => ?_) (fun z hz h1 h2 h3 => ?_) z
  · refine tr_212_5 G ⟨fun c => ⟨Rd_ix R hz, fun c2 => ?_, fun c2 => ?_⟩, fun c => absurd (by rw [R.2.2.1]; exact nI_lt hz (by omega)) c⟩
    · rw [v191L, Rd_209 R hz, if_pos hc] at c2
      exact absurd c2 (by decide)
    · rw [nI_1]
      exact ih (by omega) (by omega) (by rw [← rn_y hz hc]; exact h3)
  · rw [rn_n hz] at h3
    refine tr_212_5 G ⟨fun c => ?_, fun _ => last z h1 h2 h3⟩
    rw [R.2.2.1] at c
    have hz2 := (nI_ltI (by omega) (by omega)).mp c
    refine ⟨Rd_ix R hz2, fun _ => last z h1 h2 h3, fun c2 => absurd ?_ c2⟩
    rw [v191L, Rd_209 R hz2, if_neg (fun y => hz ⟨hz2, y⟩)]
theorem sp_212 {d : Nat} {h : mxH} {Q : mxO → mxH → Prop} {s1 : Nat} (G : mxG h) (ok : okT h) (x1 : 30 ≤ s1 ∧ s1 < 82 ∧ s1 % 2 = 0) (k : ∀ x h1, p212 s1 h x h1 → Q (.inl (some (.int x))) h1) : mx_wp (d + 4) 212 0 (mx_fr 212 [.ref 381, .ref s1]) [] h Q := by
  obtain ⟨q, hq, rfl⟩ : ∃ q, q < 26 ∧ s1 = 30 + 2 * q := ⟨(s1 - 30) / 2, by omega, by omega⟩
  obtain ⟨T, n, p, R⟩ := ok
  refine tr_212_0 G ⟨⟨T, n, p, R⟩, fun h3 u => ?_⟩
  have e := u.2 T n p R
  have R3 : Rd h3 T n (sk T n p) := by rw [e]; exact Rd_at R (rn_le R.2.1)
  rw [R3.2.2.2.1]
  refine H212a (mxK_G u.1 G) R3 hq (fun w => k 1 _ ⟨mxK_tr u.1 mxK_wi, fun T' n' p' q' R' hq' eq => .inl ?_⟩) (fun w => k 0 _ ⟨u.1, fun T' n' p' q' R' hq' eq => .inr ?_⟩) _ (Nat.le_refl _) R3.2.1 rfl
  · obtain ⟨e1, e2, e3⟩ := Rd_uniq R R'
    obtain rfl : q' = q := by omega
    rw [e1, e2, e3, e, wi_wi]
    exact ⟨w, rfl, rfl⟩
  · obtain ⟨e1, e2, e3⟩ := Rd_uniq R R'
    obtain rfl : q' = q := by omega
    rw [e1, e2, e3]
    exact ⟨w, rfl, e⟩
/-- one more is open -/
def p37 (v : Int32) (h h1 : mxH) : Prop := mxU (fun c => c = 107 ∨ c = 108) h h1 ∧ (∀ j, j ≠ 1 → mx_i h1 107 j = mx_i h 107 j) ∧ ∀ c, c < 64 → mx_i h 107 1 = nI c → mx_i h1 107 1 = nI (c + 1) ∧ ∀ j, mx_i h1 108 j = if j = c then v else mx_i h 108 j
theorem spm_37 {d : Nat} {h : mxH} {Q : mxO → mxH → Prop} {i1 : Int32} (G : mxG h) (x0 : cB (mx_i h 107 1) 63) (k : ∀ h1, p37 i1 h h1 → Q (.inl none) h1) : mx_wp d 37 0 (mx_fr 37 [.ref 107, .int i1]) [] h Q := by
  obtain ⟨c, hc, e⟩ := x0
  have v : vp_in (mx_i h 107 1) 64 := by rw [e]; exact vp_in_nI (by omega) (by decide)
  refine sp_37 G ⟨fun _ => ⟨v, trivial⟩, fun _ => trivial⟩ (k _ ?_)
  unfold W_37
  rw [wi_ne (by decide), e, if_pos (show nI c < 64 from nI_lt (b := 64) (by omega) (by decide)), nI_clamp (by omega), nI_1]
  refine ⟨mxU_tr (mxU_wi (.inr rfl)) (mxU_wi (.inl rfl)), fun j hj => ?_, fun c' hc' e' => ?_⟩
  · rw [wi_nj hj, wi_ne (by decide)]
  · have : c' = c := (nI_eq (by omega) (by omega)).mp (e'.symm.trans e)
    subst this
    refine ⟨wi_at rfl rfl, fun j => ?_⟩
    rw [wi_ne (by decide), wi_i]
    by_cases z : j = c'
    · rw [if_pos ⟨rfl, z⟩, if_pos z]
    · rw [if_neg (fun y => z y.2), if_neg z]
