/-! CASES OF THE SCALES -/
def holR (z : Nat) : Int32 := if z = 10 then -1 else nI z
def scS (r : Nat → Int32) (ns z : Nat) : Bool := decide (z = 10 ∨ (z < ns ∧ r (69 + 6 * z + 3) = 0))
def scF (r T : Nat → Int32) (z k : Nat) : Bool := decide (V_279 r (T (3 * k)) (T (3 * k + 1)) (holR z) = T (3 * k + 2))
def scC (r T : Nat → Int32) (ns m z : Nat) : Bool := scS r ns z && (List.range m).all (scF r T z)
theorem all_iff {p : Nat → Bool} {m : Nat} : (List.range m).all p = true ↔ ∀ k, k < m → p k = true := by
  rw [List.all_eq_true]
  exact ⟨fun w k hk => w k (List.mem_range.mpr hk), fun w k hk => w k (List.mem_range.mp hk)⟩
theorem sk_eq {L M b x y w v : Int32} (ne : ¬ x = y) : (if ((if b = x then L - w + v else L) - (if b = y then M - w + v else M)) = 0 then (1 : Int32) else (if 0 < ((if b = x then L - w + v else L) - (if b = y then M - w + v else M)) then 0 else 2)) = (if 0 < (if b = x then (L - M) - (w - v) else (if b = y then (L - M) - (-(w - v)) else (L - M) - 0)) then 0 else (if (if b = x then (L - M) - (w - v) else (if b = y then (L - M) - (-(w - v)) else (L - M) - 0)) = 0 then 1 else 2)) := by
  by_cases c : b = x
  · have c2 : ¬ b = y := fun q => ne (c.symm.trans q)
    rw [if_pos c, if_neg c2, if_pos c]
    have e : L - w + v - M = L - M - (w - v) := by grind
    rw [e]
    generalize L - M - (w - v) = s
    clear e
    grind
  · rw [if_neg c, if_neg c]
    by_cases c2 : b = y
    · rw [if_pos c2, if_pos c2]
      have e : L - (M - w + v) = L - M - (-(w - v)) := by grind
      rw [e]
      generalize L - M - (-(w - v)) = s
      clear e
      grind
    · rw [if_neg c2, if_neg c2]
      have e : L - M - 0 = L - M := by grind
      rw [e]
      generalize L - M = s
      clear e
      grind
section
variable {d : Nat} {h : mxH} {Q : mxO → mxH → Prop} {a np ns nl : Nat} {r : Nat → Int32}
theorem cm_59 (C : CpN (vw h a) r np ns nl) {z : Nat} (hz : scS r ns z = true) {x y : Int32} (ne : ¬ x = y) : V_59 h (nI z) a x y = V_279 r x y (holR z) := by
  have n10 := C_ns10 C
  have hz' := of_decide_eq_true hz
  unfold V_59 V_279 V_60
  rw [cm_load C x, cm_load C y, C_s C]
  by_cases c : z = 10
  · have q : ¬ nI z < nI ns := by rw [nI_lt_iff (by omega) (by omega)]; omega
    rw [if_neg q, if_neg q, holR, if_pos c, if_pos rfl]
    generalize V_205 r x - V_205 r y = s
    grind
  · have hz2 : z < ns ∧ r (69 + 6 * z + 3) = 0 := by
      rcases hz' with w | w
      · exact absurd w c
      · exact w
    have q : nI z < nI ns := nI_lt hz2.1 (by omega)
    rw [if_pos q, if_pos q, holR, if_neg c, if_neg (nI_ne1 (by omega)), cm_bearer C hz2.1, if_pos hz2.2, nI_clamp (by omega), Cs10 C hz2.1]
    rw [show (4 : Int32) = nI 4 from rfl, v198 (by omega) 4 (by omega), show (2 : Int32) = nI 2 from rfl, v198 (by omega) 2 (by omega)]
    exact sk_eq ne
theorem cm_57 (C : CpN (vw h a) r np ns nl) {z : Nat} (hz : z ≤ 10) : V_57 h (nI z) a = 0 ↔ scS r ns z = false := by
  have n10 := C_ns10 C
  unfold V_57 scS
  rw [C_s C, show (10 : Int32) = nI 10 from rfl, nI_clamp (by omega)]
  have e10 : (nI z = nI 10) ↔ (z = 10) := nI_eq (by omega) (by omega)
  by_cases c : z = 10
  · rw [if_pos (e10.mpr c)]; simp [c]
  · rw [if_neg (fun q => c (e10.mp q))]
    by_cases c2 : z < ns
    · rw [if_pos (nI_lt c2 (by omega)), Cs11 C c2]
      by_cases c3 : r (69 + 6 * z + 3) = 0
      · rw [if_pos c3]; simp [c, c2, c3]
      · rw [if_neg c3]; simp [c, c3]
    · rw [if_neg (by rw [nI_lt_iff (by omega) (by omega)]; exact c2)]; simp [c, c2]
def okFc (h : mxH) (a : Nat) (r : Nat → Int32) (np ns nl m : Nat) : Prop := CpN (vw h a) r np ns nl ∧ m ≤ 12 ∧ mx_i h 117 1 = nI m ∧ ∀ k, k < m → ¬ mx_i h 118 (3 * k) = mx_i h 118 (3 * k + 1)
def p56 (a : Nat) (h h1 : mxH) : Prop := mxU (fun c => c = 117) h h1 ∧ ∀ r np ns nl m, okFc h a r np ns nl m → mx_i h1 117 2 = orS 11 (scC r (mx_i h 118) ns m)
theorem cm_58 {z m : Nat} (o : okFc h a r np ns nl m) (hz : scS r ns z = true) : V_58 h (nI z) a = 0 ↔ (List.range m).all (scF r (mx_i h 118) z) = false := by
  obtain ⟨C, hm, em, ne⟩ := o
  have e : fitB h (nI z) a m = (List.range m).all (scF r (mx_i h 118) z) := by
    rw [Bool.eq_iff_iff, fitB_iff, all_iff]
    unfold fitC scF
    constructor
    · intro w k hk
      refine decide_eq_true ?_
      rw [← cm_59 C hz (ne k hk)]; exact w k hk
    · intro w k hk
      rw [cm_59 C hz (ne k hk)]; exact of_decide_eq_true (w k hk)
  unfold V_58
  rw [em, nI_clamp (by omega), e]
  cases (List.range m).all (scF r (mx_i h 118) z) <;> simp
theorem okFc_U {h2 : mxH} {m : Nat} (ga : 118 < a) (U : mxU (fun c => c = 117) h h2) (e1 : mx_i h2 117 1 = nI m) (o : okFc h a r np ns nl m) : okFc h2 a r np ns nl m := by
  obtain ⟨C, hm, em, ne⟩ := o
  refine ⟨CpN_congr (fun k j _ => ?_) (fun _ _ _ _ => rfl) C, hm, e1, fun k hk => ?_⟩
  · show mx_i h2 (a + k) j = mx_i h (a + k) j
    rw [mxU_i U (by omega)]
  · rw [mxU_i U (by decide)]; exact ne k hk
theorem sp_56 (G : mxG h) (hVa : (mxT a).1 = 9) (ok : ∃ (q : (Nat → Int32) × Nat × Nat × Nat × Nat), okFc h a q.1 q.2.1 q.2.2.1 q.2.2.2.1 q.2.2.2.2) (k : ∀ h1, p56 a h h1 → Q (.inl none) h1) : mx_wp (d + 4) 56 0 (mx_fr 56 [.ref 117, .ref a]) [] h Q := by
  have ga := va_gt hVa
  refine all_mv (F := mxU (fun c => c = 117) h) (R := fun q h1 => mx_i h1 117 2 = orS 11 (scC q.1 (mx_i h 118) q.2.2.1 q.2.2.2.2)) ok (fun q o => ?_) (fun h1 f r => k h1 ⟨f, fun r' np ns nl m a1 => by
    have z := r (r', np, ns, nl, m) a1
    dsimp only at z
    exact z⟩)
  obtain ⟨r, np, ns, nl, m⟩ := q
  have o : okFc h a r np ns nl m := o
  dsimp only
  refine tr_56_0 G hVa (fun h1 e1 => ?_)
  have L : ∀ j i h2, i + j = 11 → mxU (fun c => c = 117) h h2 → mx_i h2 117 1 = nI m → mx_i h2 117 2 = orS i (scC r (mx_i h 118) ns m) → H_56_5 (d + 4) h2 a (nI i) (fun o h1 => o = .inl none ∧ mxU (fun c => c = 117) h h1 ∧ mx_i h1 117 2 = orS 11 (scC r (mx_i h 118) ns m)) := by
    intro j
    induction j with
    | zero =>
      intro i h2 hi U f1 f2
      refine tr_56_5 (mxU_G U G) hVa ⟨fun _ => ⟨rfl, U, ?_⟩, fun c => ?_⟩
      · rw [f2, show i = 11 by omega]
      · rw [show i = 11 by omega] at c
        exact absurd (by decide) c
    | succ j ih =>
      intro i h2 hi U f1 f2
      have o2 := okFc_U ga U f1 o
      have C2 := o2.1
      have n10 := C_ns10 C2
      have e118 : mx_i h2 118 = mx_i h 118 := mxU_i U (by decide)
      refine tr_56_5 (mxU_G U G) hVa ⟨fun c => ?_, fun _ => ⟨⟨fun _ => trivial, fun _ => ⟨fun c => ⟨?_, trivial⟩, fun _ => trivial⟩⟩, fun v => ?_, fun v => ⟨C_cs C2, ⟨m, o2.2.1, o2.2.2.1⟩, nI_pos (by omega), fun w => ?_, fun w h8 e8 => ?_⟩⟩⟩
      · rw [show (10 : Int32) = nI 10 from rfl, nI_lt_iff (by omega) (by omega)] at c
        omega
      · rw [C_s C2, nI_lt_iff (by omega) (by omega)] at c
        exact vp_in_nI (by omega) (by decide)
      · rw [nI_1]
        refine ih (i + 1) h2 (by omega) U f1 ?_
        rw [f2]
        have s0 := (cm_57 C2 (by omega)).mp v
        show _ = if scC r (mx_i h 118) ns m i = true then _ else orS i (scC r (mx_i h 118) ns m)
        rw [if_neg (by unfold scC; rw [s0]; simp)]
      · have s1 : scS r ns i = true := by
          cases q : scS r ns i with
          | true => rfl
          | false => exact absurd ((cm_57 C2 (by omega)).mpr q) v
        have s2 := (cm_58 o2 s1).mp w
        rw [e118] at s2
        rw [nI_1]
        refine ih (i + 1) h2 (by omega) U f1 ?_
        rw [f2]
        show _ = if scC r (mx_i h 118) ns m i = true then _ else orS i (scC r (mx_i h 118) ns m)
        rw [if_neg (by unfold scC; rw [s2]; simp)]
      · have s1 : scS r ns i = true := by
          cases q : scS r ns i with
          | true => rfl
          | false => exact absurd ((cm_57 C2 (by omega)).mpr q) v
        have s2 : (List.range m).all (scF r (mx_i h 118) i) = true := by
          cases q : (List.range m).all (scF r (mx_i h 118) i) with
          | true => rfl
          | false => exact absurd ((cm_58 o2 s1).mpr (by rw [e118]; exact q)) w
        rw [nI_1]
        refine ih (i + 1) h8 (by omega) (mxU_tr U (mxU_wi' e8 rfl)) (by rw [e8, wi_nj (by decide)]; exact f1) ?_
        rw [e8, wi_at rfl rfl, f2]
        show _ = if scC r (mx_i h 118) ns m i = true then orS i (scC r (mx_i h 118) ns m) ||| _ else _
        rw [if_pos (by unfold scC; rw [s1, s2]; rfl)]
  exact L 11 0 h1 rfl (mxU_wi' e1 rfl) (by rw [e1, wi_nj (by decide)]; exact o.2.2.1) (by rw [e1, wi_at rfl rfl]; rfl)
def V_63 (h : mxH) (a : Nat) : Int32 := if V_306 h (mx_i h 117 2) < 2 then -1 else (fo (fun p s => fz (F_63_22 h a (nI p)) (p + 1) (mx_i h (a + 1) 0).toNatClampNeg s) (mx_i h (a + 1) 0).toNatClampNeg (-1, V_306 h (mx_i h 117 2))).1
theorem sp_63 (G : mxG h) (hVa : (mxT a).1 = 9) (hcp : cB (mx_i h (a + 1) 0) 6) (hcs : cB (mx_i h (a + 7) 0) 10) (k : Q (.inl (some (.int (V_63 h a)))) h) : mx_wp (d + 4) 63 0 (mx_fr 63 [.ref 117, .ref a]) [] h Q := by
  obtain ⟨n, hn, hB⟩ := hcp
  unfold V_63 at k
  rw [hB, nI_clamp (by omega)] at k
  refine tr_63_0 G hVa ⟨fun c => by rw [if_pos c] at k; exact k, fun c => ?_⟩
  rw [if_neg c] at k
  refine lp_up (P := fun s => H_63_13 (d + 4) h a (fo (fun p s => fz (F_63_22 h a (nI p)) (p + 1) n s) s (-1, V_306 h (mx_i h 117 2))).1 (fo (fun p s => fz (F_63_22 h a (nI p)) (p + 1) n s) s (-1, V_306 h (mx_i h 117 2))).2 (nI s) Q) n ?_ (fun s hs ih => ?_)
  · exact tr_63_13 G hVa ⟨fun c => absurd (hB ▸ c) Int32.lt_irrefl, fun _ => k⟩
  · refine tr_63_13 G hVa ⟨fun _ => ?_, fun c => absurd (hB.symm ▸ nI_lt hs (by omega)) c⟩
    rw [← nI_succ]
    refine lp_63_22 (s + 1) G hVa hB (by omega) (by omega) (fun z _ hz => ⟨hcs, trivial⟩) ?_
    rw [nI_succ] at ih
    exact ih
end
/-! THE REFERENCE'S CASES -/
theorem orS_ns {p : Nat → Bool} {ns : Nat} : ∀ j, (∀ z, ns ≤ z → z < ns + j → p z = false) → orS (ns + j) p = orS ns p := by
  intro j
  induction j with
  | zero => intro _; rfl
  | succ j ih =>
    intro w
    show (if p (ns + j) = true then _ else orS (ns + j) p) = _
    rw [if_neg (by rw [w (ns + j) (by omega) (by omega)]; decide)]
    exact ih (fun z h1 h2 => w z h1 (by omega))
theorem orS_11 {p : Nat → Bool} {ns : Nat} (hn : ns ≤ 10) (w : ∀ z, ns ≤ z → z < 10 → p z = false) : orS 11 p = orS ns p ||| (if p 10 = true then (1 : Int32) <<< (10 &&& 31) else 0) := by
  have e : orS 10 p = orS ns p := by
    have := orS_ns (p := p) (ns := ns) (10 - ns) (fun z h1 h2 => w z h1 (by omega))
    rw [show ns + (10 - ns) = 10 by omega] at this
    exact this
  show (if p 10 = true then orS 10 p ||| ((1 : Int32) <<< (nI 10 &&& 31)) else orS 10 p) = _
  rw [e]
  by_cases c : p 10 = true
  · rw [if_pos c, if_pos c]; rfl
  · rw [if_neg c, if_neg c, or_0]
def p280 (h : mxH) (x : Int32) (h1 : mxH) : Prop := mxU (fun c => c = 381) h h1 ∧ mx_i h1 381 8 = 0 ∧ (∀ j, j ≠ 8 → mx_i h1 381 j = mx_i h 381 j) ∧ ∀ n np ns : Nat, n ≤ 400 → np ≤ 6 → ns ≤ 10 → mx_i h 381 8 = nI n → mx_i h 382 3 = nI np → mx_i h 382 4 = nI ns → (scG (mx_i h 386) n np ∧ x = orS 11 (scC (mx_i h 382) (mx_i h 386) ns (n / 3))) ∨ (¬ scG (mx_i h 386) n np ∧ x = -1)
section
variable {d : Nat} {h : mxH} {Q : mxO → mxH → Prop}
theorem H280z (G : mxG h) {i1 i3 i4 i5 i7 : Int32} (k : H_280_77 (d + 4) h i1 (i3 ||| 0) (i4 + 1) Q) : H_280_106 (d + 4) h i1 i3 i4 i5 0 i7 Q := by
  refine tr_280_106 G ⟨fun _ => ⟨fun _ v6 e6 => ?_, fun c => absurd rfl c⟩, fun _ v2 e2 => ?_⟩
  · rw [if_pos rfl] at e6; rw [e6]; exact k
  · rw [if_pos rfl] at e2; rw [e2]; exact k
theorem H280r {m z ns zz : Nat} {T r : Nat → Int32} {s i5 : Int32} (G : mxG h) (eT : mx_i h 386 = T) (er : mx_i h 382 = r) (hm : m ≤ 12) (hns : ns ≤ 10) (e4 : r 4 = nI ns) (hz : (z < ns ∧ i5 = 0 ∧ zz = z) ∨ (i5 = 1 ∧ zz = 10)) (k1 : (List.range m).all (scF r T zz) = true → H_280_77 (d + 4) h (nI (3 * m)) (s ||| ((1 : Int32) <<< (nI zz &&& 31))) (nI (z + 1)) Q) (k0 : (List.range m).all (scF r T zz) = false → H_280_77 (d + 4) h (nI (3 * m)) (s ||| 0) (nI (z + 1)) Q) : ∀ j k, k + j = m → (∀ i, i < k → scF r T zz i = true) → H_280_106 (d + 4) h (nI (3 * m)) s (nI z) i5 1 (nI (3 * k)) Q := by
  intro j
  induction j with
  | zero =>
    intro k hk w
    refine tr_280_106 G ⟨fun c => ?_, fun _ v2 e2 => ?_⟩
    · rw [show k = m by omega] at c
      exact absurd c Int32.lt_irrefl
    · rw [if_neg (by decide)] at e2
      rw [nI_1]
      have ev : v2 = (1 : Int32) <<< (nI zz &&& 31) := by
        rcases hz with ⟨_, a, b⟩ | ⟨a, b⟩
        · rw [e2, a, b, if_pos rfl]
        · rw [e2, a, b, if_neg (by decide)]; rfl
      rw [ev]
      exact k1 (all_iff.mpr (fun i hi => w i (by omega)))
  | succ j ih =>
    intro k hk w
    have z1 : nI (3 * k) + 1 = nI (3 * k + 1) := nI_1 _
    have z2 : nI (3 * k) + 2 = nI (3 * k + 2) := by rw [show (2 : Int32) = nI 2 from rfl, nI_add]
    have z3 : nI (3 * k) + 3 = nI (3 * (k + 1)) := by rw [show (3 : Int32) = nI 3 from rfl, nI_add, show 3 * k + 3 = 3 * (k + 1) by omega]
    refine tr_280_106 G ⟨fun _ => ⟨fun c => absurd c (by decide), fun _ => ⟨vp_in_nI (by omega) (by decide), by rw [z1]; exact vp_in_nI (by omega) (by decide), fun v11 e11 => ⟨by rw [er, e4]; exact ⟨ns, hns, rfl⟩, ⟨fun _ => trivial, fun c => ?_⟩, by rw [z2]; exact vp_in_nI (by omega) (by decide), fun v15 e15 => ?_⟩⟩⟩, fun c => absurd (nI_lt (by omega) (by omega)) c⟩
    · rcases hz with ⟨a1, a, b⟩ | ⟨a, b⟩
      · rw [a, if_pos rfl] at e11
        rw [e11]
        exact ⟨vpS (by omega), vpS (by omega), trivial⟩
      · rw [a, if_neg (by decide)] at e11
        exact absurd e11 c
    · have eh : v11 = holR zz := by
        unfold holR
        rcases hz with ⟨a1, a, b⟩ | ⟨a, b⟩
        · rw [e11, a, if_pos rfl, b, if_neg (by omega)]
        · rw [e11, a, if_neg (by decide), if_pos b]
      rw [er, eT, z1, z2, nI_clamp (by omega), nI_clamp (by omega), nI_clamp (by omega), eh] at e15
      by_cases c : scF r T zz k = true
      · rw [if_pos (of_decide_eq_true c)] at e15
        rw [e15, z3]
        refine ih (k + 1) (by omega) (fun i hi => ?_)
        by_cases q : i = k
        · rw [q]; exact c
        · exact w i (by omega)
      · rw [if_neg (fun q => c (decide_eq_true q))] at e15
        rw [e15]
        refine H280z G ?_
        rw [nI_1]
        refine k0 ?_
        cases q : (List.range m).all (scF r T zz) with
        | false => rfl
        | true => exact absurd (all_iff.mp q k (by omega)) c
theorem H280c {m ns : Nat} {T r : Nat → Int32} (G : mxG h) (eT : mx_i h 386 = T) (er : mx_i h 382 = r) (hm : m ≤ 12) (hns : ns ≤ 10) (e4 : r 4 = nI ns) (fin : Q (.inl (some (.int (orS 11 (scC r T ns m))))) h) : ∀ j z, z + j = ns → H_280_77 (d + 4) h (nI (3 * m)) (orS z (scC r T ns m)) (nI z) Q := by
  intro j
  induction j with
  | zero =>
    intro z hz
    have hz' : z = ns := by omega
    subst hz'
    have last : ∀ b : Bool, (List.range m).all (scF r T 10) = b → H_280_77 (d + 4) h (nI (3 * m)) (orS z (scC r T z m) ||| (if b = true then (1 : Int32) <<< (10 &&& 31) else 0)) (nI (z + 1)) Q := by
      intro b hb
      refine tr_280_77 G ⟨fun _ => ?_, fun c => absurd (by rw [er, e4]; exact nI_lt (by omega) (by omega)) c⟩
      have e := orS_11 (p := scC r T z m) hns (fun y h1 h2 => by
        unfold scC scS
        rw [decide_eq_false (by omega)]; rfl)
      have e10 : scC r T z m 10 = b := by
        unfold scC scS
        rw [decide_eq_true (Or.inl rfl), hb]; rfl
      rw [e10] at e
      rw [← e]; exact fin
    refine tr_280_77 G ⟨fun c => absurd c (by rw [er, e4]; exact Int32.lt_irrefl), fun _ v2 e2 => ⟨⟨fun c => ?_, fun _ => trivial⟩, fun v3 e3 => ?_⟩⟩
    · rw [er, e4, if_pos rfl] at e2
      rw [e2] at c
      exact absurd c (by decide)
    · rw [er, e4, if_pos rfl] at e2
      rw [e2, if_neg (by decide)] at e3
      rw [e2, e3]
      refine H280r (zz := 10) (ns := z) G eT er hm hns e4 (.inr ⟨rfl, rfl⟩) (fun q => ?_) (fun q => ?_) m 0 (by omega) (fun i hi => by omega)
      · exact last true q
      · exact last false q
  | succ j ih =>
    intro z hz
    have hzn : z < ns := by omega
    have ne : ¬ nI z = nI ns := fun q => by
      have := (nI_eq (by omega) (by omega)).mp q
      omega
    refine tr_280_77 G ⟨fun c => ?_, fun _ v2 e2 => ⟨⟨fun _ => ⟨vpS (by omega), trivial⟩, fun _ => trivial⟩, fun v3 e3 => ?_⟩⟩
    · rw [er, e4, nI_lt_iff (by omega) (by omega)] at c
      omega
    · rw [er, e4, if_neg ne] at e2
      rw [e2, if_pos rfl, er, show (3 : Int32) = nI 3 from rfl, v198 (by omega) 3 (by omega)] at e3
      have nx : ∀ b : Bool, scC r T ns m z = b → H_280_77 (d + 4) h (nI (3 * m)) (orS z (scC r T ns m) ||| (if b = true then (1 : Int32) <<< (nI z &&& 31) else 0)) (nI (z + 1)) Q := by
        intro b hb
        have e := ih (z + 1) (by omega)
        have eo : orS (z + 1) (scC r T ns m) = orS z (scC r T ns m) ||| (if b = true then (1 : Int32) <<< (nI z &&& 31) else 0) := by
          show (if scC r T ns m z = true then orS z (scC r T ns m) ||| _ else orS z (scC r T ns m)) = _
          rw [hb]
          by_cases c : b = true
          · rw [if_pos c, if_pos c]
          · rw [if_neg c, if_neg c, or_0]
        rw [eo] at e
        exact e
      by_cases c : r (69 + 6 * z + 3) = 0
      · rw [if_pos c] at e3
        rw [e2, e3]
        have es : ∀ b, (List.range m).all (scF r T z) = b → scC r T ns m z = b := fun b hb => by
          unfold scC scS
          rw [decide_eq_true (Or.inr ⟨hzn, c⟩), hb]; rfl
        refine H280r (zz := z) (ns := ns) G eT er hm hns e4 (.inl ⟨hzn, rfl, rfl⟩) (fun q => ?_) (fun q => ?_) m 0 (by omega) (fun i hi => by omega)
        · exact nx true (es true q)
        · exact nx false (es false q)
      · rw [if_neg c] at e3
        rw [e3]
        refine H280z G ?_
        rw [nI_1]
        refine nx false ?_
        unfold scC scS
        rw [decide_eq_false (by rintro (q | q); · omega
                                · exact c q.2)]; rfl
theorem H280b {i1 i3 : Int32} (G : mxG h) (fin : Q (.inl (some (.int (-1)))) h) : H_280_19 (d + 4) h i1 0 i3 Q := tr_280_19 G ⟨fun _ => ⟨fun _ => ⟨fun _ => fin, fun c => absurd rfl c⟩, fun c => absurd rfl c⟩, fun _ => ⟨fun _ => fin, fun c => absurd rfl c⟩⟩
theorem H280a {m np : Nat} {T : Nat → Int32} (G : mxG h) (eT : mx_i h 386 = T) (e3 : mx_i h 382 3 = nI np) (hm : m ≤ 12) (f0 : ¬ (∀ k, k < m → scR T np k) → Q (.inl (some (.int (-1)))) h) (f1 : (∀ k, k < m → scR T np k) → H_280_77 (d + 4) h (nI (3 * m)) 0 0 Q) : ∀ j k, k + j = m → (∀ i, i < k → scR T np i) → H_280_19 (d + 4) h (nI (3 * m)) 1 (nI (3 * k)) Q := by
  intro j
  induction j with
  | zero =>
    intro k hk w
    refine tr_280_19 G ⟨fun c => ?_, fun _ => ⟨fun c => absurd c (by decide), fun _ => f1 (fun i hi => w i (by omega))⟩⟩
    rw [show k = m by omega] at c
    exact absurd c Int32.lt_irrefl
  | succ j ih =>
    intro k hk w
    have z1 : nI (3 * k) + 1 = nI (3 * k + 1) := nI_1 _
    have z2 : nI (3 * k) + 2 = nI (3 * k + 2) := by rw [show (2 : Int32) = nI 2 from rfl, nI_add]
    have z3 : nI (3 * k) + 3 = nI (3 * (k + 1)) := by rw [show (3 : Int32) = nI 3 from rfl, nI_add, show 3 * k + 3 = 3 * (k + 1) by omega]
    refine tr_280_19 G ⟨fun _ => ⟨fun c => absurd c (by decide), fun _ => ⟨vp_in_nI (by omega) (by decide), ⟨fun _ => ⟨by rw [z1]; exact vp_in_nI (by omega) (by decide), fun _ => ⟨fun _ => trivial, fun _ => ⟨by rw [z2]; exact vp_in_nI (by omega) (by decide), trivial⟩⟩, fun _ => trivial⟩, fun _ => trivial⟩, fun v6 e6 => ?_⟩⟩, fun c => absurd (nI_lt (by omega) (by omega)) c⟩
    rw [z1, z2, nI_clamp (by omega), nI_clamp (by omega), nI_clamp (by omega), eT, e3] at e6
    have ev : (scR T np k ∧ v6 = 1) ∨ (¬ scR T np k ∧ v6 = 0) := by
      unfold scR
      clear f0 f1 ih w
      generalize T (3 * k) = x at *
      generalize T (3 * k + 1) = y at *
      generalize T (3 * k + 2) = u at *
      generalize nI np = p at *
      grind
    rcases ev with ⟨a, b⟩ | ⟨a, b⟩
    · rw [b, z3]
      refine ih (k + 1) (by omega) (fun i hi => ?_)
      by_cases q : i = k
      · rw [q]; exact a
      · exact w i (by omega)
    · rw [b]
      exact H280b G (f0 (fun q => a (q k (by omega))))
theorem sp_280 (G : mxG h) (x0 : cB (mx_i h 381 8) 400) (x1 : cB (mx_i h 382 3) 6) (x2 : cB (mx_i h 382 4) 10) (k : ∀ x h1, p280 h x h1 → Q (.inl (some (.int x))) h1) : mx_wp (d + 4) 280 0 (mx_fr 280 [.ref 381]) [] h Q := by
  obtain ⟨n, hn, en⟩ := x0
  obtain ⟨np, hp, ep⟩ := x1
  obtain ⟨ns, hs, es⟩ := x2
  refine tr_280_0 G (fun h1 e1 v4 e4 => ?_)
  have U : mxU (fun c => c = 381) h h1 := mxU_wi' e1 rfl
  have G1 := mxU_G U G
  have fin : ∀ x, ((scG (mx_i h 386) n np ∧ x = orS 11 (scC (mx_i h 382) (mx_i h 386) ns (n / 3))) ∨ (¬ scG (mx_i h 386) n np ∧ x = -1)) → Q (.inl (some (.int x))) h1 := by
    intro x w
    refine k x h1 ⟨U, by rw [e1, wi_at rfl rfl], fun j hj => by rw [e1, wi_nj hj], fun n' np' ns' a1 a2 a3 b1 b2 b3 => ?_⟩
    have c1 : n' = n := (nI_eq (by omega) (by omega)).mp (b1.symm.trans en)
    have c2 : np' = np := (nI_eq (by omega) (by omega)).mp (b2.symm.trans ep)
    have c3 : ns' = ns := (nI_eq (by omega) (by omega)).mp (b3.symm.trans es)
    rw [c1, c2, c3]; exact w
  have eT : mx_i h1 386 = mx_i h 386 := mxU_i U (by decide)
  have er : mx_i h1 382 = mx_i h 382 := mxU_i U (by decide)
  rw [en] at e4 ⊢
  have ev : (n % 3 = 0 ∧ n ≤ 36 ∧ v4 = 1) ∨ (¬ (n % 3 = 0 ∧ n ≤ 36) ∧ v4 = 0) := by
    have q3 := nI_m3 (n := n) (by omega)
    have q36 : ((36 : Int32) < nI n) = (36 < n) := nI_lt_iff (a := 36) (by omega) (by omega)
    by_cases c : n % 3 = 0
    · rw [if_pos (q3.mpr c)] at e4
      by_cases c2 : 36 < n
      · rw [if_pos (q36.mpr c2)] at e4
        exact .inr ⟨by omega, e4⟩
      · rw [if_neg (fun q => c2 (q36.mp q))] at e4
        exact .inl ⟨c, by omega, e4⟩
    · rw [if_neg (fun q => c (q3.mp q))] at e4
      exact .inr ⟨fun q => c q.1, e4⟩
  rcases ev with ⟨c3, c36, b⟩ | ⟨a, b⟩
  · rw [b]
    obtain ⟨m, rfl⟩ : ∃ m, n = 3 * m := ⟨n / 3, by omega⟩
    have em : 3 * m / 3 = m := by omega
    rw [em] at fin
    refine H280a (np := np) (T := mx_i h 386) G1 eT (by rw [er]; exact ep) (by omega) (fun w => ?_) (fun w => ?_) m 0 (by omega) (fun i hi => by omega)
    · exact fin _ (.inr ⟨fun g => w (fun k hk => g.2.2 k (by omega)), rfl⟩)
    · refine H280c (T := mx_i h 386) (r := mx_i h 382) (ns := ns) G1 eT er (by omega) hs es ?_ ns 0 (by omega)
      exact fin _ (.inl ⟨⟨c3, c36, fun k hk => w k (by omega)⟩, rfl⟩)
  · rw [b]
    exact H280b G1 (fin _ (.inr ⟨fun g => a ⟨g.1, g.2.1⟩, rfl⟩))
end
