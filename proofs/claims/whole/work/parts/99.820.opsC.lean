/-! OPS C: last, span -/
def fbR (r : Nat → Int32) (np : Nat) : Option Nat := ff (fun z => !decide (V_206 r (nI z) = 0)) np 0
theorem cm_107 {h : mxH} {a np ns nl : Nat} {r : Nat → Int32} (C : CpN (vw h a) r np ns nl) : V_107 h a = match fbR r np with
    | none => -1
    | some z => nI z := by
  have h6 := C_np6 C
  unfold V_107 fbR
  rw [C_p C, nI_clamp (by omega), ff_congr (q := fun z => !decide (V_206 r (nI z) = 0)) np 0 (fun y _ hy => by rw [cm_bowed C (by omega)])]
  rfl
def laN (q : Nat → Option Nat) (i1 : Int32) : Nat → Nat → Int32
  | 0, _ => -1
  | k + 1, n => match q n with
    | some z => if i1 = 0 then nI n else nI z
    | none => laN q i1 k (n + 1)
theorem H170 {d vn vd vr vq np ns nl : Nat} {h0 : mxH} {Q : mxO → mxH → Prop} {W : Option (List LL)} {r : Nat → Int32} {y i1 : Int32} (hVd : (mxT vd).1 = 9) (hVr : (mxT vr).1 = 3) (L0 : LC (lw h0 vr) W) (fin : ∀ h1, mxU (inHr vd vr) h0 h1 → Q (.inl (some (.int y))) h1) : ∀ (m i : Nat) (h : mxH), m + i = 201 → mxG h → mxS h vn vd vr vq → mxU (inHr vd vr) h0 h → CpN (vw h vd) (hrX W 0 np ns i r) np ns nl → laN (fun n => fbR (hrX W 0 np ns n r) np) i1 m i = y → H_170_7 (d + 5) h i1 (nI i) Q := by
  have dj := vl_ne hVd hVr
  intro m
  induction m with
  | zero =>
    intro i h hm G S U C hy
    have hi : i = 201 := by omega
    subst hi
    have hy : -1 = y := hy
    refine tr_170_7 G S ⟨fun _ => by rw [hy]; exact fin h U, fun c => absurd (by decide) c⟩
  | succ m ih =>
    intro i h hm G S U C hy
    have h6 := C_np6 C
    have L : LC (lw h vr) W := LC_U U (fun k hk q => by unfold inHr at q; omega) L0
    refine tr_170_7 G S ⟨fun c => absurd ((nI_ltI (a := 200) (by decide) (by omega)).mp c) (by omega), fun _ => ⟨C_cp C, C_cs C, ?_⟩⟩
    rw [cm_107 C]
    have hy : (match fbR (hrX W 0 np ns i r) np with
      | some z => if i1 = 0 then nI i else nI z
      | none => laN (fun n => fbR (hrX W 0 np ns n r) np) i1 m (i + 1)) = y := hy
    match hf : fbR (hrX W 0 np ns i r) np with
    | none =>
      rw [hf] at hy
      refine ⟨fun _ => ⟨⟨(W, _, np, ns, nl), C, L⟩, fun x6 h7 u7 => ?_⟩, fun c => absurd rfl c⟩
      rw [nI_1]
      refine ih (i + 1) h7 (by omega) (mxU_G u7.1 G) (mxU_S u7.1 S) (mxU_tr U u7.1) ?_ hy
      rw [hrX_s]; exact (u7.2 W _ np ns nl C L).1
    | some z =>
      rw [hf] at hy
      have zl := (ff_lt _ _ _ hf).2
      refine ⟨fun c => absurd c (nI_ne1 (by omega)), fun _ v11 e11 => ?_⟩
      have hy : (if i1 = 0 then nI i else nI z) = y := hy
      have e11 : v11 = if i1 = 0 then nI i else nI z := e11
      rw [e11, hy]
      exact fin h U
theorem H285b {d np ns nl i : Nat} {h : mxH} {Q : mxO → mxH → Prop} {W : Option (List LL)} {i1 : Int32} (hi : i ≤ 200) (G : mxG h) (R : Rok (mx_i h 382) np ns nl) (L : LR (mx_i h 382) W) (fin : ∀ h1, mxG h1 → frW h h1 → mx_i h1 382 = hrX W 0 np ns 1 (mx_i h 382) → H_285_9 (d + 36) h1 i1 (match fbR (mx_i h 382) np with
    | some z => if i1 = 0 then nI i else nI z
    | none => -1) (nI i + 1) Q) : ∀ (m z : Nat), m + z = np → fbR (mx_i h 382) np = ff (fun z => !decide (V_206 (mx_i h 382) (nI z) = 0)) m z → H_285_17 (d + 36) h i1 (-1) (nI i) (nI z) Q := by
  have R1 := R
  obtain ⟨v, C⟩ := R
  have h6 := C_np6 C
  have pass : ∀ (w : Int32), w = (match fbR (mx_i h 382) np with
    | some z => if i1 = 0 then nI i else nI z
    | none => -1) → okP h 1 ∧ (∀ (x3 : Int32) (h4 : mxH), p241 1 0 h x3 h4 → H_285_9 (d + 36) h4 i1 w (nI i + 1) Q) := by
    intro w hw
    refine ⟨⟨(W, np, ns, nl, 1), R1, L, by show 1 ≤ 200; omega, rfl⟩, fun x3 h4 u4 => ?_⟩
    have o := (u4.2 W np ns nl 1 R1 L (by omega) rfl).1
    rw [hw]
    exact fin h4 (mxK_G u4.1.1 G) u4.1 o
  intro m
  induction m with
  | zero =>
    intro z hz hf
    have hz : z = np := by omega
    subst hz
    refine tr_285_17 G ⟨fun c => ?_, fun _ => pass _ (by rw [hf]; rfl)⟩
    rw [C_np C] at c
    exact absurd c Int32.lt_irrefl
  | succ m ih =>
    intro z hz hf
    have hx : z < np := by omega
    have hf : fbR (mx_i h 382) np = if (!decide (V_206 (mx_i h 382) (nI z) = 0)) = true then some z else ff (fun z => !decide (V_206 (mx_i h 382) (nI z) = 0)) m (z + 1) := hf
    refine tr_285_17 G ⟨fun _ => ⟨fun _ => ⟨C_rs C, vpU (by omega), ⟨fun _ => trivial, fun _ => ⟨vpU (by omega), fun _ => trivial, fun _ => ⟨vpU (by omega), trivial⟩⟩⟩, fun v16 e16 => ?_⟩, fun q => absurd rfl q⟩, fun c => absurd (by rw [C_np C]; exact nI_lt hx (by omega)) c⟩
    by_cases c : V_206 (mx_i h 382) (nI z) = 0
    · rw [if_pos c] at e16
      rw [decide_eq_true c] at hf
      rw [e16, nI_1]
      exact ih (z + 1) (by omega) (by simpa using hf)
    · rw [if_neg c] at e16
      rw [decide_eq_false c] at hf
      have hf : fbR (mx_i h 382) np = some z := by simpa using hf
      have ne : ¬ v16 = -1 := by
        rw [e16]
        split
        · exact nI_ne1 (by omega)
        · exact nI_ne1 (by omega)
      have P := pass v16 (by rw [hf, e16])
      by_cases q : (nI z + 1) < mx_i h 382 3
      · exact tr_285_17 G ⟨fun _ => ⟨fun y => absurd y ne, fun _ => P⟩, fun y => absurd q y⟩
      · exact tr_285_17 G ⟨fun y => absurd y q, fun _ => P⟩
theorem H285 {d np ns nl : Nat} {h0 : mxH} {Q : mxO → mxH → Prop} {W : Option (List LL)} {r : Nat → Int32} {y i1 : Int32} (R0 : Rok r np ns nl) (L0 : LR r W) (fin : ∀ h1 h2, frW h0 h1 → (∀ k, 369 ≤ k → mx_i h1 382 k = r k) → h2 = W_226 h1 → Q (.inl (some (.int y))) h2) : ∀ (m i : Nat) (h : mxH), m + i = 201 → mxG h → frW h0 h → mx_i h 382 = hrX W 0 np ns i r → laN (fun n => fbR (hrX W 0 np ns n r) np) i1 m i = y → H_285_9 (d + 36) h i1 (-1) (nI i) Q := by
  have nn : np ≤ 6 ∧ ns ≤ 10 := by obtain ⟨v, C⟩ := R0; exact ⟨C_np6 C, C_ns10 C⟩
  have hW := LR_b L0
  have off : ∀ i k, 369 ≤ k → hrX W 0 np ns i r k = r k := fun i k hk => hrI_off nn.1 nn.2 (by unfold offR; omega) i
  intro m
  induction m with
  | zero =>
    intro i h hm G U e hy
    have hi : i = 201 := by omega
    subst hi
    have hy : -1 = y := hy
    refine tr_285_9 G ⟨fun _ h2 e2 => by rw [hy]; exact fin h h2 U (fun k hk => by rw [e]; exact off _ k hk) e2, fun c => absurd (by decide) c⟩
  | succ m ih =>
    intro i h hm G U e hy
    have R : Rok (mx_i h 382) np ns nl := by rw [e]; exact hrI_ok hW R0 i
    have L : LR (mx_i h 382) W := LR_off L0 (fun k hk => by rw [e]; exact hrI_off nn.1 nn.2 hk i)
    have hy : (match fbR (hrX W 0 np ns i r) np with
      | some z => if i1 = 0 then nI i else nI z
      | none => laN (fun n => fbR (hrX W 0 np ns n r) np) i1 m (i + 1)) = y := hy
    refine tr_285_9 G ⟨fun c => absurd ((nI_ltI (a := 200) (by decide) (by omega)).mp c) (by omega), fun _ => ⟨fun _ => ?_, fun q => absurd rfl q⟩⟩
    refine H285b (W := W) (np := np) (ns := ns) (nl := nl) (i := i) (by omega) G R L (fun h1 G1 U1 e1 => ?_) np 0 rfl rfl
    rw [e, hrX_1] at e1
    have U' := frW_tr U U1
    rw [e]
    match hf : fbR (hrX W 0 np ns i r) np with
    | none =>
      rw [hf] at hy
      show H_285_9 (d + 36) h1 i1 (-1) (nI i + 1) Q
      rw [nI_1]
      exact ih (i + 1) h1 (by omega) G1 U' e1 hy
    | some z =>
      rw [hf] at hy
      have zl := (ff_lt _ _ _ hf).2
      have hy : (if i1 = 0 then nI i else nI z) = y := hy
      show H_285_9 (d + 36) h1 i1 (if i1 = 0 then nI i else nI z) (nI i + 1) Q
      have ne : ¬ y = -1 := by
        rw [← hy]
        split
        · exact nI_ne1 (by omega)
        · exact nI_ne1 (by omega)
      rw [hy, nI_1]
      by_cases q : (200 : Int32) < nI (i + 1)
      · exact tr_285_9 G1 ⟨fun _ h2 e2 => fin h1 h2 U' (fun k hk => by rw [e1]; exact off _ k hk) e2, fun z => absurd q z⟩
      · exact tr_285_9 G1 ⟨fun z => absurd z q, fun _ => ⟨fun z => absurd z ne, fun _ h7 e7 => fin h1 h7 U' (fun k hk => by rw [e1]; exact off _ k hk) e7⟩⟩
theorem op_last (i1 : Int32) : Op LWd 170 285 [.int i1] (fun _ => 0) := by
  intro h vn vd vr vq np ns nl I
  have ok := LWd_ok
  have C := I.2.2.1
  have S := I.2.1
  obtain ⟨W, LC0, LR0⟩ := I.2.2.2.1
  have b0 := S_ne S
  refine tr_170_0 I.1 S (fun h3 u3 => ?_)
  have U3 : mxU (inHr vd vr) h h3 := cp_in u3
  refine H170 (W := W) (r := mx_i h 382) (np := np) (ns := ns) (nl := nl) (vn := vn) (vq := vq) (h0 := h) (y := laN (fun n => fbR (hrX W 0 np ns n (mx_i h 382)) np) i1 201 0) (mxS_vd S) (mxS_vr S) LC0 (fun h' u' => ?_) 201 0 h3 rfl (mxU_G U3 I.1) (mxU_S U3 S) U3 (cp_CpN u3 C) rfl
  intro hm hmd
  have m' : mx_i h' 382 = mx_i h 382 := mxU_i u' (by unfold inHr; omega)
  have em : mx_i hm 382 = mx_i h 382 := (md_382 hmd 382).trans m'
  have Gm := agr_G (P := fun _ => False) (agr_mdl hmd) (mxU_G u' I.1)
  refine tr_285_0 Gm (fun h3 e3 h7 e7 => ?_)
  have m7 : mx_i h7 382 = mx_i h 382 := by rw [e7, mxU_i W225_p.1 (by decide), e3, thr382]; exact em
  have G7 : mxG h7 := by
    rw [e7]
    refine mxU_G W225_p.1 ?_
    rw [e3]
    exact mxG_wi Gm
  refine H285 (W := W) (r := mx_i h 382) (np := np) (ns := ns) (nl := nl) (h0 := h7) (y := laN (fun n => fbR (hrX W 0 np ns n (mx_i h 382)) np) i1 201 0) ⟨_, C⟩ LR0 (fun h1 h2 U1 o1 e2' => ?_) 201 0 h7 rfl G7 frW_rfl m7 rfl
  obtain ⟨s17, t17, q17⟩ := smr_look (S_lt S) e3 e7 U1 (fun k hk => by rw [m7]; exact o1 k hk) e2'
  exact op_fin2 ok I (smr_tr (smr_tr (smr_hr S u') (smr_mdl hmd)) s17) (bud_r (bq_tr (bq_tr (bq_U u') (bq_mdl hmd)) q17)) ⟨t17, rfl⟩
/-! span -/
theorem cnt_all : ∀ x : Fin 64, ∃ m : Fin 7, V_306 h00 (nI x.val) = nI m.val := by decide +kernel
/-- how many are hurt -/
def cntR (r : Nat → Int32) : Int32 := V_195 r (V_292 r)
theorem cnt_c {h : mxH} {a np ns nl : Nat} {r : Nat → Int32} (C : CpN (vw h a) r np ns nl) : V_306 h (mx_i h (a + 1) 6) = cntR r ∧ ∃ m : Nat, m ≤ 6 ∧ cntR r = nI m := by
  obtain ⟨B, hB, e⟩ := C.2.2.2.1.1
  have e : mx_i h (a + 1) 6 = nI B := e
  have B64 : B < 64 := Nat.lt_of_lt_of_le hB (Nat.pow_le_pow_right (by decide) (C_np6 C))
  have ec : V_306 h (mx_i h (a + 1) 6) = cntR r := by
    unfold cntR
    rw [← cm_hurt C, e]
    exact bc (by omega)
  refine ⟨ec, ?_⟩
  obtain ⟨m, hm⟩ := cnt_all ⟨B, B64⟩
  refine ⟨m.val, by omega, ?_⟩
  rw [← ec, e]
  exact hm
def cmin (c : Nat → Int32) : Nat → Int32
  | 0 => 6
  | s + 1 => if c (s + 1) < cmin c s then c (s + 1) else cmin c s
def cmax (c : Nat → Int32) : Nat → Int32
  | 0 => 0
  | s + 1 => if cmax c s < c (s + 1) then c (s + 1) else cmax c s
theorem cmin_b {c : Nat → Int32} {N : Nat} (h : ∀ s, 1 ≤ s → s ≤ N → ∃ m : Nat, m ≤ 6 ∧ c s = nI m) : ∀ s, s ≤ N → (0 ≤ cmin c s ∧ cmin c s ≤ 6) ∧ (0 ≤ cmax c s ∧ cmax c s ≤ 6) := by
  intro s
  induction s with
  | zero => intro _; exact ⟨⟨(by decide : (0 : Int32) ≤ 6), (by decide : (6 : Int32) ≤ 6)⟩, ⟨(by decide : (0 : Int32) ≤ 0), (by decide : (0 : Int32) ≤ 6)⟩⟩
  | succ s ih =>
    intro hs
    obtain ⟨m, hm, e⟩ := h (s + 1) (by omega) hs
    have b1 : 0 ≤ c (s + 1) := by rw [e]; exact nI_pos' (by omega)
    have b2 : c (s + 1) ≤ 6 := by
      rw [e]
      exact nI_le (b := 6) hm (by decide)
    have i := ih (by omega)
    refine ⟨?_, ?_⟩
    · show 0 ≤ (if c (s + 1) < cmin c s then c (s + 1) else cmin c s) ∧ (if c (s + 1) < cmin c s then c (s + 1) else cmin c s) ≤ 6
      split
      · exact ⟨b1, b2⟩
      · exact i.1
    · show 0 ≤ (if cmax c s < c (s + 1) then c (s + 1) else cmax c s) ∧ (if cmax c s < c (s + 1) then c (s + 1) else cmax c s) ≤ 6
      split
      · exact ⟨b1, b2⟩
      · exact i.2
theorem H174 {d vn vd vr vq np ns nl n : Nat} {h0 : mxH} {Q : mxO → mxH → Prop} {W : Option (List LL)} {r : Nat → Int32} {i2 : Int32} (hn : n ≤ 200) (hv : vn = 119 ∧ vd = 135 ∨ vn = 135 ∧ vd = 119) (hVd : (mxT vd).1 = 9) (hVr : (mxT vr).1 = 3) (L0 : LC (lw h0 vr) W) (C0 : CpN (vw h0 vn) r np ns nl) (fin : ∀ h1, mxU (inHr vd vr) h0 h1 → Q (.inl (some (.int (if i2 = 0 then cmin (fun s => cntR (hrX W 1 np ns n (rs r 8 (nI s)))) 6 else cmax (fun s => cntR (hrX W 1 np ns n (rs r 8 (nI s)))) 6)))) h1) : ∀ (m s : Nat) (h : mxH), m + s = 6 → mxG h → mxS h vn vd vr vq → mxU (inHr vd vr) h0 h → H_174_9 (d + 6) h (nI n) i2 (cmin (fun s => cntR (hrX W 1 np ns n (rs r 8 (nI s)))) s) (cmax (fun s => cntR (hrX W 1 np ns n (rs r 8 (nI s)))) s) (nI (s + 1)) Q := by
  have dj := vl_ne hVd hVr
  have d3 := mxT3' hVr
  intro m
  induction m with
  | zero =>
    intro s h hm G S U
    have hs : s = 6 := by omega
    subst hs
    refine tr_174_9 G S ⟨fun _ v2 e2 => by rw [e2]; exact fin h U, fun c => absurd (by decide) c⟩
  | succ m ih =>
    intro s h hm G S U
    have L : LC (lw h vr) W := LC_U U (fun k hk q => by unfold inHr at q; omega) L0
    have C : CpN (vw h vn) r np ns nl := CpN_U U (fun k hk q => by unfold inHr at q; omega) C0
    refine tr_174_9 G S ⟨fun c => absurd ((nI_ltI (a := 6) (by decide) (by omega)).mp c) (by omega), fun _ => ⟨⟨(W, r, np, ns, nl, n), C, L, hn, rfl⟩, fun h6 u6 => ?_⟩⟩
    have C6 := u6.2 W r np ns nl n C L hn rfl
    rw [(cnt_c C6).1, nI_1]
    exact ih (s + 1) h6 (by omega) (mxU_G u6.1 G) (mxU_S u6.1 S) (mxU_tr U u6.1)
def fnd (c : Nat → Int32) (i2 : Int32) (s : Nat) : Int32 := if s = 0 then -1 else if i2 = 0 then cmin c s else cmax c s
theorem fnd_s {c : Nat → Int32} {i2 : Int32} {r : Nat → Int32} {N s : Nat} (h : ∀ s, 1 ≤ s → s ≤ N → ∃ m : Nat, m ≤ 6 ∧ c s = nI m) (hs : s < N) : (if fnd c i2 s = -1 then c (s + 1) else (if i2 = 0 then V_192 r (fnd c i2 s) (c (s + 1)) else V_193 r (fnd c i2 s) (c (s + 1)))) = fnd c i2 (s + 1) := by
  obtain ⟨m, hm, e⟩ := h (s + 1) (by omega) hs
  have b1 : 0 ≤ c (s + 1) := by rw [e]; exact nI_pos' (by omega)
  have b2 : c (s + 1) ≤ 6 := by
    rw [e]
    exact nI_le (b := 6) hm (by decide)
  have b := cmin_b h s (by omega)
  have en : fnd c i2 (s + 1) = if i2 = 0 then cmin c (s + 1) else cmax c (s + 1) := rfl
  rw [en]
  show _ = if i2 = 0 then (if c (s + 1) < cmin c s then c (s + 1) else cmin c s) else (if cmax c s < c (s + 1) then c (s + 1) else cmax c s)
  cases s with
  | zero =>
    have e0 : fnd c i2 0 = -1 := rfl
    rw [e0, if_pos rfl]
    have c0 : cmin c 0 = 6 := rfl
    have c1 : cmax c 0 = 0 := rfl
    rw [c0, c1]
    repeat' split
    all_goals grind
  | succ s =>
    have e0 : fnd c i2 (s + 1) = if i2 = 0 then cmin c (s + 1) else cmax c (s + 1) := rfl
    have ne : ¬ fnd c i2 (s + 1) = -1 := by
      rw [e0]
      split
      · intro q; exact absurd b.1.1 (by rw [q]; decide)
      · intro q; exact absurd b.2.1 (by rw [q]; decide)
    rw [if_neg ne, e0]
    by_cases z : i2 = 0
    · rw [if_pos z, if_pos z, if_pos z]
      unfold V_192
      by_cases q : cmin c (s + 1) < c (s + 1 + 1)
      · rw [if_pos q, if_neg (by grind)]
      · rw [if_neg q]
        by_cases q2 : c (s + 1 + 1) < cmin c (s + 1)
        · rw [if_pos q2]
        · rw [if_neg q2]; grind
    · rw [if_neg z, if_neg z, if_neg z]
      unfold V_193
      by_cases q : c (s + 1 + 1) < cmax c (s + 1)
      · rw [if_pos q, if_neg (by grind)]
      · rw [if_neg q]
        by_cases q2 : cmax c (s + 1) < c (s + 1 + 1)
        · rw [if_pos q2]
        · rw [if_neg q2]; grind
theorem fnd_6 (c : Nat → Int32) (i2 : Int32) : fnd c i2 6 = if i2 = 0 then cmin c 6 else cmax c 6 := by unfold fnd; rw [if_neg (by decide)]
theorem H295 {d np ns nl n : Nat} {h0 : mxH} {Q : mxO → mxH → Prop} {W : Option (List LL)} {r : Nat → Int32} {v : Nat → Nat → Int32} {i2 : Int32} (hn : n ≤ 200) (C : CpN v r np ns nl) (L0 : LR r W) (a0 : ∀ j, j < 369 → mx_i h0 384 j = r j) (fin : ∀ h1, frW h0 h1 → mx_i h1 382 = r → Q (.inl (some (.int (fnd (fun s => cntR (hrX W 1 np ns n (rs r 8 (nI s)))) i2 6)))) h1) : ∀ (m s : Nat) (h : mxH), m + s = 6 → mxG h → frW h0 h → mx_i h 382 = r → H_295_21 (d + 36) h (nI n) i2 (fnd (fun s => cntR (hrX W 1 np ns n (rs r 8 (nI s)))) i2 s) (nI (s + 1)) Q := by
  have hW := LR_b L0
  have n6 := C_np6 C
  have n10 := C_ns10 C
  have bd : ∀ s, 1 ≤ s → s ≤ 6 → ∃ m : Nat, m ≤ 6 ∧ (fun s => cntR (hrX W 1 np ns n (rs r 8 (nI s)))) s = nI m := by
    intro s _ _
    obtain ⟨v', C'⟩ := hrI_ok (W := W) (dr := 1) (n := n) hW ⟨_, CpN_sd C (nI s)⟩
    obtain ⟨hh, aa, rfl⟩ := vw_ex v'
    exact (cnt_c C').2
  intro m
  induction m with
  | zero =>
    intro s h hm G U e
    have hs : s = 6 := by omega
    subst hs
    refine tr_295_21 G ⟨fun _ => fin h U e, fun c => absurd (by decide) c⟩
  | succ m ih =>
    intro s h hm G U e
    refine tr_295_21 G ⟨fun c => absurd ((nI_ltI (a := 6) (by decide) (by omega)).mp c) (by omega), fun _ h2 e2 => ?_⟩
    have U2 : frW h h2 := by rw [e2]; exact frW_m
    have m2 : mx_i h2 382 = rs r 8 (nI (s + 1)) := by rw [e2, m_wi, e]
    have R2 : Rok (mx_i h2 382) np ns nl := by rw [m2]; exact ⟨_, CpN_sd C _⟩
    have L2 : LR (mx_i h2 382) W := LR_off L0 (fun k hk => by rw [m2]; exact rs_off hk (by omega))
    refine ⟨⟨(W, np, ns, nl, n), R2, L2, hn, rfl⟩, fun x6 h7 u7 => ?_⟩
    have o := (u7.2 W np ns nl n R2 L2 hn rfl).1
    rw [hrX_I, m2] at o
    obtain ⟨v', C'⟩ := hrI_ok (W := W) (dr := 1) (n := n) hW ⟨_, CpN_sd C (nI (s + 1))⟩
    have C7 : CpN v' (mx_i h7 382) np ns nl := by rw [o]; exact C'
    refine ⟨C_rp C7, fun h11 e11 v15 e15 => ?_⟩
    have U7 := frW_tr (frW_tr U U2) u7.1
    have U11 : frW h0 h11 := by
      have w := W226_p (h := h7)
      rw [← e11] at w
      refine frW_tr U7 ⟨mxU_K w.1, fun b _ _ c => mxU_i w.1 c, fun k _ => by rw [mxU_i w.1 (by decide)]⟩
    have m11 : mx_i h11 382 = r := by
      funext j
      rw [e11, W226_p.2]
      by_cases c : j < 369
      · rw [if_pos c, U7.2.1 384 (by decide) (by decide) (by decide)]; exact a0 j c
      · rw [if_neg c, o]
        exact (hrI_off n6 n10 (by unfold offR; omega) n).trans (rs_ne (by omega))
    have e15 : v15 = fnd (fun s => cntR (hrX W 1 np ns n (rs r 8 (nI s)))) i2 (s + 1) := by
      rw [← fnd_s (r := mx_i h11 382) bd (by omega)]
      rw [e15, o]
      rfl
    rw [e15, nI_1]
    exact ih (s + 1) h11 (by omega) (mxK_G (frW_tr U2 (frW_tr u7.1 (by
      have w := W226_p (h := h7)
      rw [← e11] at w
      exact ⟨mxU_K w.1, fun b _ _ c => mxU_i w.1 c, fun k _ => by rw [mxU_i w.1 (by decide)]⟩))).1 G) U11 m11
theorem op_span (i1 i2 : Int32) : Op LWd 174 295 [.int i1, .int i2] (fun k => if k = 0 then 1 else 0) := by
  intro h vn vd vr vq np ns nl I
  have ok := LWd_ok
  have C := I.2.2.1
  have S := I.2.1
  obtain ⟨W, LC0, LR0⟩ := I.2.2.2.1
  have b0 := S_ne S
  refine tr_174_0 I.1 S ⟨fun c => ?_, fun c hm hmd => ?_⟩
  · obtain ⟨n, hn, rfl⟩ := isI_nI (n := 101) (by decide) c
    refine H174 (W := W) (r := mx_i h 382) (np := np) (ns := ns) (nl := nl) (vn := vn) (vq := vq) (h0 := h) (by omega) b0.1 (mxS_vd S) (mxS_vr S) LC0 C (fun h' u' => ?_) 6 0 h rfl I.1 S mxU_rfl
    intro hm hmd
    have m' : mx_i h' 382 = mx_i h 382 := mxU_i u' (by unfold inHr; omega)
    have em : mx_i hm 382 = mx_i h 382 := (md_382 hmd 382).trans m'
    have Gm := agr_G (P := fun _ => False) (agr_mdl hmd) (mxU_G u' I.1)
    refine tr_295_0 Gm (fun v1 e1 h2 e2 => ?_)
    rw [v191_yB (show ¬ nI n < 0 ∧ ¬ (100 : Int32) < nI n from ⟨nI_pos (by omega), fun q => absurd ((nI_ltI (a := 100) (by decide) (by omega)).mp q) (by omega)⟩), if_neg (by decide)] at e1
    subst e1
    have t2 : mx_i h2 381 0 = 0 := by rw [e2, thr0]
    rw [t2]
    refine ⟨fun q => absurd q (by decide), fun _ h6 e6 => ?_⟩
    have w6 := W225_p (h := h2)
    rw [← e6] at w6
    have m2 : mx_i h2 382 = mx_i h 382 := by rw [e2, thr382]; exact em
    have m6 : mx_i h6 382 = mx_i h 382 := (mxU_i w6.1 (by decide)).trans m2
    have G6 : mxG h6 := mxU_G w6.1 (by rw [e2]; exact mxG_wi Gm)
    refine H295 (W := W) (r := mx_i h 382) (np := np) (ns := ns) (nl := nl) (h0 := h6) (by omega) C LR0 (fun j hj => by rw [w6.2 j, if_pos hj, m2]) (fun h1 U1 e1 => ?_) 6 0 h6 rfl G6 frW_rfl m6
    have s1 : smr vd vr vq hm h1 := by
      refine ⟨?_, fun b hb => ?_, fun b hb => ?_, ?_, fun k hk => ?_⟩
      · rw [U1.1.1, w6.1.1, e2]; rfl
      · rw [U1.1.2.2.2.1, w6.1.2.2.2.1, e2]; rfl
      · unfold scr at hb
        by_cases q : b = 382
        · rw [q, e1, em]
        · rw [U1.2.1 b (by omega) (by omega) q, mxU_i w6.1 (by omega), e2, wi_ne (by omega)]
      · rw [U1.2.1 101 (by decide) (by decide) (by decide), mxU_i w6.1 (by decide), e2, wi_ne (by decide)]
      · rw [U1.2.2 k (by omega), mxU_i w6.1 (by decide), e2, wi_nj (by omega)]
    have t1 : mx_i h1 381 0 = 0 := by rw [U1.2.2 0 (by omega), mxU_i w6.1 (by decide)]; exact t2
    refine op_fin2 ok I (smr_tr (smr_tr (smr_hr S u') (smr_mdl hmd)) s1) (bud_r (bq_tr (bq_tr (bq_tr (bq_tr (bq_U u') (bq_mdl hmd)) (bq_wi' e2)) (bq_U w6.1)) (bq_K U1.1))) ⟨t1, (fnd_6 _ _).symm⟩
  · refine tr_295_0 (agr_G (P := fun _ => False) (agr_mdl hmd) (mxG_ex I.1)) (fun v1 e1 h2 e2 => ?_)
    have : i1 < 0 ∨ 100 < i1 := by
      by_cases q : i1 < 0
      · exact .inl q
      · refine .inr ?_
        have : ¬ i1 < 101 := fun y => c ⟨q, y⟩
        grind
    rw [v191_nB this, if_pos rfl] at e1
    subst e1
    subst e2
    rw [thr0]
    exact ⟨fun _ => op_fin ok I (smr_tr smr_ex (smr_mdl hmd)) (bud_ex hmd) ⟨rfl, by decide⟩, fun q => absurd (by decide) q⟩
