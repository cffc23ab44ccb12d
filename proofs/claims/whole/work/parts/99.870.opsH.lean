/-! WEIGH -/
def ctI (r : Nat → Int32) (X x y q : Int32) (z : Nat) : Int32 := if bt X z = true ∧ V_279 r x y (holR z) = q then 1 else 0
def ctN (r : Nat → Int32) (X x y q : Int32) (n : Nat) : Int32 := fo (fun z s => s + ctI r X x y q z) n 0
theorem ctN_nI {r : Nat → Int32} {X x y q : Int32} : ∀ n, n ≤ 11 → ∃ m : Nat, m ≤ n ∧ ctN r X x y q n = nI m := by
  intro n
  induction n with
  | zero => intro _; exact ⟨0, by omega, rfl⟩
  | succ n ih =>
    intro hn
    obtain ⟨m, hm, e⟩ := ih (by omega)
    have es : ctN r X x y q (n + 1) = ctN r X x y q n + ctI r X x y q n := rfl
    rw [es, e]
    unfold ctI
    by_cases c : bt X n = true ∧ V_279 r x y (holR n) = q
    · rw [if_pos c]; exact ⟨m + 1, by omega, nI_1 _⟩
    · rw [if_neg c]; exact ⟨m, by omega, Int32.add_zero _⟩
def mx3 (a b c : Int32) : Int32 := if a < (if b < c then c else b) then (if b < c then c else b) else a
theorem mx3_eq {r : Nat → Int32} {a b c : Nat} (ha : a ≤ 11) (hb : b ≤ 11) (hc : c ≤ 11) : V_193 r (V_193 r (V_193 r 0 (nI a)) (nI b)) (nI c) = mx3 (nI a) (nI b) (nI c) := by
  have h : ∀ a b c : Fin 12, V_193 (fun _ => 0) (V_193 (fun _ => 0) (V_193 (fun _ => 0) 0 (nI a.val)) (nI b.val)) (nI c.val) = mx3 (nI a.val) (nI b.val) (nI c.val) := by decide +kernel
  exact h ⟨a, by omega⟩ ⟨b, by omega⟩ ⟨c, by omega⟩
theorem mx3_nI {a b c : Nat} (ha : a ≤ 11) (hb : b ≤ 11) (hc : c ≤ 11) : ∃ m : Nat, m ≤ 11 ∧ mx3 (nI a) (nI b) (nI c) = nI m := by
  unfold mx3
  by_cases q : nI b < nI c
  · rw [if_pos q]
    by_cases w : nI a < nI c
    · rw [if_pos w]; exact ⟨c, hc, rfl⟩
    · rw [if_neg w]; exact ⟨a, ha, rfl⟩
  · rw [if_neg q]
    by_cases w : nI a < nI b
    · rw [if_pos w]; exact ⟨b, hb, rfl⟩
    · rw [if_neg w]; exact ⟨a, ha, rfl⟩
def gtP (r : Nat → Int32) (X x y : Int32) : Int32 := mx3 (ctN r X x y 0 11) (ctN r X x y 1 11) (ctN r X x y 2 11)
theorem gtP_nI {r : Nat → Int32} {X x y : Int32} : ∃ m : Nat, m ≤ 11 ∧ gtP r X x y = nI m := by
  obtain ⟨a, ha, ea⟩ := ctN_nI (r := r) (X := X) (x := x) (y := y) (q := 0) 11 (by omega)
  obtain ⟨b, hb, eb⟩ := ctN_nI (r := r) (X := X) (x := x) (y := y) (q := 1) 11 (by omega)
  obtain ⟨c, hc, ec⟩ := ctN_nI (r := r) (X := X) (x := x) (y := y) (q := 2) 11 (by omega)
  unfold gtP
  rw [ea, eb, ec]
  exact mx3_nI ha hb hc
theorem gtP_193 {r : Nat → Int32} {X x y : Int32} : V_193 r (V_193 r (V_193 r 0 (ctN r X x y 0 11)) (ctN r X x y 1 11)) (ctN r X x y 2 11) = gtP r X x y := by
  obtain ⟨a, ha, ea⟩ := ctN_nI (r := r) (X := X) (x := x) (y := y) (q := 0) 11 (by omega)
  obtain ⟨b, hb, eb⟩ := ctN_nI (r := r) (X := X) (x := x) (y := y) (q := 1) 11 (by omega)
  obtain ⟨c, hc, ec⟩ := ctN_nI (r := r) (X := X) (x := x) (y := y) (q := 2) 11 (by omega)
  unfold gtP
  rw [ea, eb, ec]
  exact mx3_eq ha hb hc
theorem F64_c {v c0 c1 c2 : Int32} : ((if v = 0 then (if v = 1 then (if v = 2 then (c0 + 1) else (c0 + 1)) else (if v = 2 then (c0 + 1) else (c0 + 1))) else (if v = 1 then (if v = 2 then (c0 + 0) else (c0 + 0)) else (if v = 2 then (c0 + 0) else (c0 + 0)))) = c0 + (if v = 0 then 1 else 0)) ∧ ((if v = 0 then (if v = 1 then (if v = 2 then (c1 + 1) else (c1 + 1)) else (if v = 2 then (c1 + 0) else (c1 + 0))) else (if v = 1 then (if v = 2 then (c1 + 1) else (c1 + 1)) else (if v = 2 then (c1 + 0) else (c1 + 0)))) = c1 + (if v = 1 then 1 else 0)) ∧ ((if v = 0 then (if v = 1 then (if v = 2 then (c2 + 1) else (c2 + 0)) else (if v = 2 then (c2 + 1) else (c2 + 0))) else (if v = 1 then (if v = 2 then (c2 + 1) else (c2 + 0)) else (if v = 2 then (c2 + 1) else (c2 + 0)))) = c2 + (if v = 2 then 1 else 0)) := by
  refine ⟨?_, ?_, ?_⟩
  · by_cases a : v = 0 <;> simp [a]
  · by_cases a : v = 0
    · simp [a]
    · by_cases b : v = 1 <;> simp [b, a]
  · by_cases a : v = 0
    · simp [a]
    · by_cases b : v = 1
      · simp [b]
      · by_cases c : v = 2 <;> simp [a, b, c]
section
variable {d : Nat} {h hc : mxH} {Q : mxO → mxH → Prop} {a np ns nl m : Nat} {r T : Nat → Int32}
theorem cm_64 (C : CpN (vw h a) r np ns nl) (e : mx_i h 117 2 = orS 11 (scC r T ns m)) {x y : Int32} (ne : ¬ x = y) : V_64 h a x y = gtP r (mx_i h 117 2) x y := by
  have f : ∀ n, n ≤ 11 → fo (F_64_8 h a x y) n (0, 0, 0) = (ctN r (mx_i h 117 2) x y 0 n, ctN r (mx_i h 117 2) x y 1 n, ctN r (mx_i h 117 2) x y 2 n) := by
    intro n
    induction n with
    | zero => intro _; rfl
    | succ n ih =>
      intro hn
      have e0 : fo (F_64_8 h a x y) (n + 1) (0, 0, 0) = F_64_8 h a x y n (fo (F_64_8 h a x y) n (0, 0, 0)) := rfl
      rw [e0, ih (by omega)]
      have ec : ∀ q, ctN r (mx_i h 117 2) x y q (n + 1) = ctN r (mx_i h 117 2) x y q n + ctI r (mx_i h 117 2) x y q n := fun q => rfl
      rw [ec, ec, ec]
      generalize ctN r (mx_i h 117 2) x y 0 n = c0
      generalize ctN r (mx_i h 117 2) x y 1 n = c1
      generalize ctN r (mx_i h 117 2) x y 2 n = c2
      unfold F_64_8 ctI
      dsimp only
      by_cases c : bt (mx_i h 117 2) n = true
      · have c' : ((mx_i h 117 2 >>> (nI n &&& 31)) &&& 1) = 1 := by rw [tb1 _ (by omega)]; exact c
        have s1 : scS r ns n = true := by
          rw [e, bt_orS (by omega) _ (by omega)] at c
          unfold scC at c
          cases q : scS r ns n with
          | true => rfl
          | false => rw [q] at c; simp at c
        rw [if_pos c', if_pos c', if_pos c', cm_59 C s1 ne]
        generalize V_279 r x y (holR n) = v
        obtain ⟨g0, g1, g2⟩ := F64_c (v := v) (c0 := c0) (c1 := c1) (c2 := c2)
        rw [g0, g1, g2]
        simp only [c, true_and]
      · have c' : ¬ ((mx_i h 117 2 >>> (nI n &&& 31)) &&& 1) = 1 := by rw [tb1 _ (by omega)]; exact c
        rw [if_neg c', if_neg c', if_neg c', if_neg (fun q => c q.1), if_neg (fun q => c q.1), if_neg (fun q => c q.1), Int32.add_zero, Int32.add_zero, Int32.add_zero]
  unfold V_64 gtP mx3
  rw [f 11 (by omega)]
theorem F282 {X i2 i3 x y i6 q : Int32} : fo (F_282_58 r X i2 i3 x y i6 q) 11 0 = ctN r X x y q 11 := by
  refine fo_congr (fun z hz s => ?_)
  unfold F_282_58 ctI
  congr 1
  rw [v194 (by omega)]
  by_cases c : bt X z = true
  · rw [if_pos c, if_neg (by decide)]
    by_cases c2 : z = 10
    · rw [if_pos (by rw [c2]; rfl)]
      simp only [c, true_and, holR, if_pos c2]
    · rw [if_neg (show ¬ nI z = 10 from fun w => c2 ((nI_eq (b := 10) (by omega) (by omega)).mp w))]
      simp only [c, true_and, holR, if_neg c2]
  · rw [if_neg c, if_pos rfl, if_neg (fun q => c q.1)]
theorem H282s {X i2 i3 : Int32} {x y : Nat} (G : mxG h) (cs : cB (mx_i h 382 4) 10) (er : mx_i h 382 = r) (bX : ∀ z, z < 11 → bt X z = true → z = 10 ∨ z < 10) (k : H_282_41 (d + 5) h X (if gtP r X (nI x) (nI y) < i3 then 10 * nI x + nI y else i2) (if gtP r X (nI x) (nI y) < i3 then gtP r X (nI x) (nI y) else i3) (nI x) (nI y + 1) Q) : H_282_51 (d + 5) h X i2 i3 (nI x) (nI y) 0 0 Q := by
  have one : ∀ (i6 i7 : Int32), i7 < 3 → H_282_51 (d + 5) h X i2 i3 (nI x) (nI y) (V_193 r i6 (ctN r X (nI x) (nI y) i7 11)) (i7 + 1) Q → H_282_51 (d + 5) h X i2 i3 (nI x) (nI y) i6 i7 Q := by
    intro i6 i7 h7 kk
    refine tr_282_51 G ⟨fun _ => ?_, fun c => absurd h7 c⟩
    refine lp_282_58 (n := 11) 0 G rfl (by omega) (by omega) (by omega) (fun z _ hz => ⟨⟨fun _ => trivial, fun _ => ⟨fun _ => ⟨cs, ⟨fun _ => trivial, fun q => absurd rfl q⟩, trivial⟩, fun q => ⟨cs, ⟨fun _ => trivial, fun _ => ?_⟩, trivial⟩⟩⟩, trivial⟩) ?_
    · have hz2 : z < 10 := by
        have : ¬ z = 10 := fun w => q (by rw [w]; rfl)
        omega
      exact ⟨vpS hz2, vpS hz2, trivial⟩
    · rw [fz_fo, er, F282]; exact kk
  refine one 0 0 (by decide) (one _ _ (by decide) (one _ _ (by decide) (tr_282_51 G ⟨fun c => absurd c (by decide), fun _ v2 e2 v3 e3 => ?_⟩)))
  have eg : V_193 r (V_193 r (V_193 r 0 (ctN r X (nI x) (nI y) 0 11)) (ctN r X (nI x) (nI y) (0 + 1) 11)) (ctN r X (nI x) (nI y) (0 + 1 + 1) 11) = gtP r X (nI x) (nI y) := gtP_193
  rw [eg] at e2 e3
  rw [e2, e3]; exact k
/-- the class's pair and the reference's best -/
def Rl (s : Int32 × Int32) (B : Int32) : Prop := (s.1 = -1 → B = 2000000000) ∧ (¬ s.1 = -1 → B = s.2)
theorem H282b {X : Int32} (G : mxG h) (er : mx_i h 382 = r) (C : CpN (vw hc a) r np ns nl) (eX : X = mx_i hc 117 2) (e : X = orS 11 (scC r T ns m)) {p : Nat} (hp : p < np) (s0 : Int32 × Int32) (kk : ∀ B, Rl (fz (F_63_22 hc a (nI p)) (p + 1) np s0) B → H_282_31 (d + 5) h X (fz (F_63_22 hc a (nI p)) (p + 1) np s0).1 B (nI (p + 1)) Q) : ∀ j z B, z + j = np → p + 1 ≤ z → Rl (fz (F_63_22 hc a (nI p)) (p + 1) z s0) B → H_282_41 (d + 5) h X (fz (F_63_22 hc a (nI p)) (p + 1) z s0).1 B (nI p) (nI z) Q := by
  have n6 := C_np6 C
  intro j
  induction j with
  | zero =>
    intro z B hz _ R
    have hz' : z = np := by omega
    subst hz'
    refine tr_282_41 G ⟨fun c => ?_, fun _ => by rw [nI_1]; exact kk B R⟩
    rw [er, C_np C] at c
    exact absurd c Int32.lt_irrefl
  | succ j ih =>
    intro z B hz hpz R
    refine tr_282_41 G ⟨fun _ => ?_, fun c => absurd (by rw [er, C_np C]; exact nI_lt (by omega) (by omega)) c⟩
    refine H282s G (by rw [er]; exact C_rs C) er (fun z h1 _ => by omega) ?_
    have ne : ¬ nI p = nI z := fun q => by
      have := (nI_eq (by omega) (by omega)).mp q
      omega
    have eg : V_64 hc a (nI p) (nI z) = gtP r X (nI p) (nI z) := by rw [eX]; exact cm_64 C (eX ▸ e) ne
    obtain ⟨g, hg, egn⟩ := gtP_nI (r := r) (X := X) (x := nI p) (y := nI z)
    have e10 : (10 : Int32) * nI p + nI z = nI (10 * p + z) := by rw [show (10 : Int32) = nI 10 from rfl, pk_mul, nI_add]
    have h10 : ¬ (10 : Int32) * nI p + nI z = -1 := by rw [e10]; exact nI_ne1 (by omega)
    have es : fz (F_63_22 hc a (nI p)) (p + 1) (z + 1) s0 = F_63_22 hc a (nI p) z (fz (F_63_22 hc a (nI p)) (p + 1) z s0) := fz_s hpz
    rw [nI_1]
    have nx := ih (z + 1) (if gtP r X (nI p) (nI z) < B then gtP r X (nI p) (nI z) else B) (by omega) (by omega)
    rw [es] at nx
    generalize fz (F_63_22 hc a (nI p)) (p + 1) z s0 = s at nx R ⊢
    unfold F_63_22 at nx
    rw [eg] at nx
    dsimp only at nx
    by_cases c : s.1 = -1
    · have hB := R.1 c
      have lt : gtP r X (nI p) (nI z) < B := by rw [hB, egn]; exact nI_lt (b := 2000000000) (by omega) (by omega)
      rw [if_pos c, if_pos c, if_pos lt] at nx
      rw [if_pos lt, if_pos lt]
      exact nx ⟨fun q => absurd q h10, fun _ => rfl⟩
    · have hB := R.2 c
      rw [if_neg c, if_neg c, ← hB] at nx
      by_cases lt : gtP r X (nI p) (nI z) < B
      · rw [if_pos lt, if_pos lt] at nx
        rw [if_pos lt, if_pos lt]
        exact nx ⟨fun q => absurd q h10, fun _ => rfl⟩
      · rw [if_neg lt, if_neg lt] at nx
        rw [if_neg lt, if_neg lt]
        exact nx ⟨fun q => absurd q c, fun _ => rfl⟩
theorem H282a {X : Int32} (G : mxG h) (er : mx_i h 382 = r) (C : CpN (vw hc a) r np ns nl) (eX : X = mx_i hc 117 2) (e : X = orS 11 (scC r T ns m)) (s0 : Int32 × Int32) (fin : Q (.inl (some (.int (fo (fun p s => fz (F_63_22 hc a (nI p)) (p + 1) np s) np s0).1))) h) : ∀ j z B, z + j = np → Rl (fo (fun p s => fz (F_63_22 hc a (nI p)) (p + 1) np s) z s0) B → H_282_31 (d + 5) h X (fo (fun p s => fz (F_63_22 hc a (nI p)) (p + 1) np s) z s0).1 B (nI z) Q := by
  have n6 := C_np6 C
  intro j
  induction j with
  | zero =>
    intro z B hz R
    have hz' : z = np := by omega
    subst hz'
    refine tr_282_31 G ⟨fun c => ?_, fun _ => fin⟩
    rw [er, C_np C] at c
    exact absurd c Int32.lt_irrefl
  | succ j ih =>
    intro z B hz R
    refine tr_282_31 G ⟨fun _ => ?_, fun c => absurd (by rw [er, C_np C]; exact nI_lt (by omega) (by omega)) c⟩
    rw [nI_1]
    have w := H282b (h := h) (d := d) (Q := Q) G er C eX e (p := z) (by omega) (fo (fun p s => fz (F_63_22 hc a (nI p)) (p + 1) np s) z s0) (fun B' R' => ih (z + 1) B' (by omega) R') (np - (z + 1)) (z + 1) B (by omega) (by omega)
    rw [fz_0] at w
    exact w R
end
theorem op_weigh : Op LWd 167 282 [] (fun k => if k = 0 then 1 else 0) := by
  intro h vn vd vr vq np ns nl I
  have S := I.2.1
  have C := I.2.2.1
  have ga : 118 < vn := va_gt (mxS_vn S)
  have n6 := C_np6 C
  obtain ⟨n, hn, e1, e8, hT⟩ := I.2.2.2.2.1
  refine tr_167_0 (T := mx_i h 386) I.1 S C hn e1 hT (fun g h1 U t e hm hmd => ?_) (fun g h1 U t hm hmd => ?_)
  · have i1 : ∀ b, ¬ tch b → mx_i hm b = mx_i h b := fun b hb => (md_382 hmd b).trans (mxU_i U hb)
    have Gm : mxG hm := agr_G (P := fun _ => False) (agr_mdl hmd) (mxU_G U I.1)
    have m382 := i1 382 (by unfold tch; omega)
    have m381 := i1 381 (by unfold tch; omega)
    have m386 := i1 386 (by unfold tch; omega)
    have C1 : CpN (vw h1 vn) (mx_i h 382) np ns nl := CpN_congr (fun k j _ => by
      show mx_i h1 (vn + k) j = mx_i h (vn + k) j
      rw [mxU_i U (by unfold tch; omega)]) (fun _ _ _ _ => rfl) C
    refine tr_282_0 Gm ⟨by rw [m381]; exact ⟨n, hn, e8⟩, by rw [m382]; exact C_rp C, by rw [m382]; exact C_rs C, fun x4 h5 u5 v8 ev8 h9 e9 => ?_⟩
    obtain ⟨U5, f5, j5, w5⟩ := u5
    have w := w5 n np ns hn (C_np6 C) (C_ns10 C) (by rw [m381]; exact e8) (by rw [m382]; exact C_np C) (by rw [m382]; exact C_ns C)
    rw [m382, m386] at w
    rcases w with ⟨_, w⟩ | ⟨q, _⟩
    · rw [w, if_neg (sc_m1 _)] at ev8
      subst ev8
      have t9 : mx_i h9 381 0 = 0 := by rw [e9, thr0]
      have m9 : mx_i h9 382 = mx_i h 382 := by rw [e9, thr382, mxU_i U5 (by decide)]; exact m382
      have G9 : mxG h9 := by rw [e9]; exact mxG_wi (mxU_G U5 Gm)
      have fin : ∀ v13, v13 = V_63 h1 vn → ∃ b, (.inl (some (.int v13)) : mxO) = .inl (some (.int b)) ∧ ansOk (fun k => if k = 0 then 1 else 0) (.inl (some (.int (V_63 h1 vn)))) b (mx_i h9 381 0) ∧ bud h h9 ∧ ∃ vn vd vr vq np ns nl, Inv LWd h9 vn vd vr vq np ns nl := by
        intro v13 e13
        refine ⟨v13, rfl, ⟨t9, e13.symm⟩, ?_, vn, vd, vr, vq, np, ns, nl, ?_⟩
        · exact bud_r (bq_tr (bq_tr (bq_tr (bq_U U) (bq_mdl hmd)) (bq_U U5)) (bq_wi' e9))
        · refine Inv_tp I ?_ ?_ (fun b hb h3 => ?_) (fun j j0 j8 => ?_) ?_ ?_
          · rw [e9]; show mx_c h5 = _; rw [U5.1, hmd.1, U.1]
          · rw [e9]; show mx_r h5 = _; rw [mxU_r U5, hmd.2.2.2.2, mxU_r U]
          · rw [e9, wi_ne h3, mxU_i U5 h3, i1 b hb]
          · rw [e9, wi_nj j0, j5 j j8, m381]
          · rw [e9, wi_ne (by decide), mxU_i U5 (by decide), md_382 hmd]; exact t
          · rw [e9, wi_nj (by decide)]; exact f5
      have ebc : V_306 h1 (mx_i h1 117 2) = V_195 (mx_i h9 382) x4 := by
        obtain ⟨mm, hmm, em⟩ := orS_nI' (scC (mx_i h 382) (mx_i h 386) ns (n / 3))
        rw [w, e, em]
        exact bc2 hmm
      refine ⟨fun q => absurd (t9 ▸ q) (by decide), fun _ => ⟨fun c v16 e16 => ?_, fun c => ?_⟩⟩
      · refine fin v16 ?_
        rw [e16, t9, if_neg (by decide)]
        unfold V_63
        rw [if_pos (by rw [ebc]; exact c)]
      · have ev : V_63 h1 vn = (fo (fun p s => fz (F_63_22 h1 vn (nI p)) (p + 1) np s) np (-1, V_306 h1 (mx_i h1 117 2))).1 := by
          unfold V_63
          rw [if_neg (by rw [ebc]; exact c), C_p C1, nI_clamp (by omega)]
        refine H282a (hc := h1) (a := vn) (r := mx_i h 382) (T := mx_i h 386) (m := n / 3) G9 m9 C1 (w.trans e.symm) w (-1, V_306 h1 (mx_i h1 117 2)) (fin _ ev.symm) np 0 2000000000 (by omega) ⟨fun _ => rfl, fun q => absurd rfl q⟩
    · exact absurd g q
  · have i1 : ∀ b, ¬ tch b → mx_i hm b = mx_i h b := fun b hb => (md_382 hmd b).trans (mxU_i U hb)
    have Gm : mxG hm := agr_G (P := fun _ => False) (agr_mdl hmd) (mxG_ex (mxU_G U I.1))
    have m382 := i1 382 (by unfold tch; omega)
    have m381 := i1 381 (by unfold tch; omega)
    have m386 := i1 386 (by unfold tch; omega)
    refine tr_282_0 Gm ⟨by rw [m381]; exact ⟨n, hn, e8⟩, by rw [m382]; exact C_rp C, by rw [m382]; exact C_rs C, fun x4 h5 u5 v8 ev8 h9 e9 => ?_⟩
    obtain ⟨U5, f5, j5, w5⟩ := u5
    have w := w5 n np ns hn (C_np6 C) (C_ns10 C) (by rw [m381]; exact e8) (by rw [m382]; exact C_np C) (by rw [m382]; exact C_ns C)
    rw [m382, m386] at w
    rcases w with ⟨q, _⟩ | ⟨_, w⟩
    · exact absurd q g
    · rw [w, if_pos rfl] at ev8
      subst ev8
      have t9 : mx_i h9 381 0 = 1 := by rw [e9, thr0]
      rw [t9]
      refine ⟨fun _ v13 e13 => ⟨v13, rfl, ?_, ?_, vn, vd, vr, vq, np, ns, nl, ?_⟩, fun q => absurd (by decide) q⟩
      · exact ⟨rfl, by decide⟩
      · have := bud_ex hmd
        exact bud_q (bq_U U) (bud_s this (bq_tr (bq_U U5) (bq_wi' e9)))
      · refine Inv_tp I ?_ ?_ (fun b hb h3 => ?_) (fun j j0 j8 => ?_) ?_ ?_
        · rw [e9]; show mx_c h5 = _; rw [U5.1, hmd.1]; exact U.1
        · rw [e9]; show mx_r h5 = _; rw [mxU_r U5, hmd.2.2.2.2]; exact (show mx_r h1 = mx_r h from mxU_r U)
        · rw [e9, wi_ne h3, mxU_i U5 h3, i1 b hb]
        · rw [e9, wi_nj j0, j5 j j8, m381]
        · rw [e9, wi_ne (by decide), mxU_i U5 (by decide), md_382 hmd]; exact t
        · rw [e9, wi_nj (by decide)]; exact f5
