/-! OPS 7: count, led, pays -/
def mCnt (r : Nat → Int32) (ac i1 : Int32) : Int32 := if i1 = 0 then r 3 else if i1 = 1 then r 4 else if i1 = 2 then r 0 else if i1 = 3 then r 1 else if i1 = 4 then r 5 else if i1 = 5 then r 6 else if i1 = 6 then V_293 r else if V_191 r i1 7 9 = 0 then (if i1 = 10 then V_289 r else if i1 = 11 then V_292 r else if i1 = 12 then r 7 else if i1 = 13 then ac else -1) else V_303 r (i1 - 7)
theorem op_count {LW : mxLW} (ok : LWok LW) (lc : LWc LW) (i1 : Int32) : Op LW 142 304 [.int i1] (fun _ => 0) := by
  intro h vn vd vr vq np ns nl I
  have C := I.2.2.1
  have leaf : ∀ v, v = mCnt (mx_i h 382) (mx_i h 381 6) i1 → ∀ hm, mdl h hm → mx_wp 500 304 0 (mx_fr 304 [.ref 381, .int i1]) [] hm (fun o2 h2 => ∃ b, o2 = .inl (some (.int b)) ∧ ansOk (fun _ => 0) (.inl (some (.int v))) b (mx_i h2 381 0) ∧ bud h h2 ∧ ∃ vn vd vr vq np ns nl, Inv LW h2 vn vd vr vq np ns nl) := by
    intro v hv hm hmd
    refine tr_304_0 (agr_G (P := fun _ => False) (agr_mdl hmd) I.1) (fun h1 e1 => ?_)
    have em : mx_i h1 382 = mx_i h 382 := by rw [e1, thr382, md_382 hmd]
    have e6 : mx_i h1 381 6 = mx_i h 381 6 := by rw [e1, wi_nj (by decide), md_382 hmd]
    have fin : ∀ b, v = b → ∃ b2, (.inl (some (.int b)) : mxO) = .inl (some (.int b2)) ∧ ansOk (fun _ => 0) (.inl (some (.int v))) b2 (mx_i h1 381 0) ∧ bud h h1 ∧ ∃ vn vd vr vq np ns nl, Inv LW h1 vn vd vr vq np ns nl := fun b hb => by
      subst e1
      exact op_fin ok I (smr_mdl hmd) (bud_mdl hmd) ⟨rfl, hb⟩
    rw [em, e6]
    unfold mCnt at hv
    refine ⟨fun q => fin _ ?_, fun q0 => ⟨fun q => fin _ ?_, fun q1 => ⟨fun q => fin _ ?_, fun q2 => ⟨fun q => fin _ ?_, fun q3 => ⟨fun q => fin _ ?_, fun q4 => ⟨fun q => fin _ ?_, fun q5 => ⟨fun q => ⟨C_rp C, fin _ ?_⟩, fun q6 => ⟨fun q => ⟨fun q7 => ⟨C_rs C, fin _ ?_⟩, fun q7 => ⟨fun q8 => ⟨C_rp C, fin _ ?_⟩, fun q8 => ⟨fun q9 => fin _ ?_, fun q9 v15 e15 => fin _ ?_⟩⟩⟩, fun q => ⟨C_rs C, fin _ ?_⟩⟩⟩⟩⟩⟩⟩⟩⟩
    · rw [hv, if_pos q]
    · rw [hv, if_neg q0, if_pos q]
    · rw [hv, if_neg q0, if_neg q1, if_pos q]
    · rw [hv, if_neg q0, if_neg q1, if_neg q2, if_pos q]
    · rw [hv, if_neg q0, if_neg q1, if_neg q2, if_neg q3, if_pos q]
    · rw [hv, if_neg q0, if_neg q1, if_neg q2, if_neg q3, if_neg q4, if_pos q]
    · rw [hv, if_neg q0, if_neg q1, if_neg q2, if_neg q3, if_neg q4, if_neg q5, if_pos q]
    · rw [hv, if_neg q0, if_neg q1, if_neg q2, if_neg q3, if_neg q4, if_neg q5, if_neg q6, if_pos q, if_pos q7]
    · rw [hv, if_neg q0, if_neg q1, if_neg q2, if_neg q3, if_neg q4, if_neg q5, if_neg q6, if_pos q, if_neg q7, if_pos q8]
    · rw [hv, if_neg q0, if_neg q1, if_neg q2, if_neg q3, if_neg q4, if_neg q5, if_neg q6, if_pos q, if_neg q7, if_neg q8, if_pos q9]
    · rw [hv, if_neg q0, if_neg q1, if_neg q2, if_neg q3, if_neg q4, if_neg q5, if_neg q6, if_pos q, if_neg q7, if_neg q8, if_neg q9, e15]
    · rw [hv, if_neg q0, if_neg q1, if_neg q2, if_neg q3, if_neg q4, if_neg q5, if_neg q6, if_neg q]
  refine tr_142_0 I.1 I.2.1 ⟨fun q => leaf _ ?_, fun q0 => ⟨fun q => leaf _ ?_, fun q1 => ⟨fun q => leaf _ ?_, fun q2 => ⟨fun q v5 e5 => leaf _ ?_, fun q3 => ⟨fun q => leaf _ ?_, fun q4 => ⟨fun q => leaf _ ?_, fun q5 => ⟨fun q => ⟨C_cp C, leaf _ ?_⟩, fun q6 => ⟨fun q => ⟨C_cs C, leaf _ ?_⟩, fun q7 => ⟨fun q => ⟨C_cs C, leaf _ ?_⟩, fun q8 => ⟨fun q => ⟨C_cs C, leaf _ ?_⟩, fun q9 => ⟨fun q => ⟨C_cs C, leaf _ ?_⟩, fun q10 => ⟨fun q => leaf _ ?_, fun q11 => ⟨fun q => leaf _ ?_, fun q12 => ⟨fun q => leaf _ ?_, fun q13 => leaf _ ?_⟩⟩⟩⟩⟩⟩⟩⟩⟩⟩⟩⟩⟩⟩
  · subst q; rw [C_p C, ← C_np C]; rfl
  · subst q; rw [C_s C, ← C_ns C]; rfl
  · subst q; rw [C_texts C]; rfl
  · subst q; rw [e5]; exact (lc _ _ I.2.2.2.1).2
  · subst q; rw [C_hour C]; rfl
  · subst q; rw [C_limit C]; rfl
  · subst q; rw [cm_purses C]; rfl
  · subst q; rw [cm_state C]; rfl
  · subst q; rw [cm_state C]; rfl
  · subst q; rw [cm_state C]; rfl
  · subst q; rw [cm_unpaid C]; rfl
  · subst q; rw [cm_hurt C]; rfl
  · subst q; rw [C_l C, ← C_nl C]; rfl
  · subst q
    obtain ⟨f, c, a1, a2, a3, a4, a5, a6⟩ := I.2.2.2.2.2.2.1
    rw [a4, ← a5]; rfl
  · unfold mCnt
    rw [if_neg q0, if_neg q1, if_neg q2, if_neg q3, if_neg q4, if_neg q5, if_neg q6, if_pos, if_neg q10, if_neg q11, if_neg q12, if_neg q13]
    unfold V_191
    by_cases c7 : i1 < 7
    · rw [if_pos c7]
    · rw [if_neg c7, if_pos]
      apply Classical.byContradiction
      intro c9
      have : i1 = 7 ∨ i1 = 8 ∨ i1 = 9 := by grind
      rcases this with e | e | e
      · exact q7 e
      · exact q8 e
      · exact q9 e
/-- rows of a stone: how many, and the hour of the newest -/
def ml (r : Nat → Int32) (i1 : Int32) : Nat → Int32 → Int32 → Int32 × Int32
  | 0, n, f => (n, f)
  | z + 1, n, f => if r (129 + 4 * z + 1) = i1 then ml r i1 z (n + 1) (r (129 + 4 * z + 0)) else ml r i1 z n f
def pz (r : Nat → Int32) (i1 : Int32) (z : Nat) : Bool := decide (r (129 + 4 * z + 1) = i1)
def Fc (r : Nat → Int32) (i1 : Int32) (z : Nat) (s : Int32) : Int32 := if r (129 + 4 * z + 1) = i1 then s + 1 else s
theorem Fc_1 {r : Nat → Int32} {i1 : Int32} (z : Nat) (n : Int32) : fo (Fc r i1) z (n + 1) = fo (Fc r i1) z n + 1 := by
  induction z with
  | zero => rfl
  | succ z ih =>
    show Fc r i1 z (fo (Fc r i1) z (n + 1)) = Fc r i1 z (fo (Fc r i1) z n) + 1
    rw [ih]
    unfold Fc
    split <;> rfl
theorem ml_1 {r : Nat → Int32} {i1 : Int32} : ∀ (z : Nat) (n f : Int32), (ml r i1 z n f).1 = fo (Fc r i1) z n := by
  intro z
  induction z with
  | zero => intro n f; rfl
  | succ z ih =>
    intro n f
    show (if r (129 + 4 * z + 1) = i1 then ml r i1 z (n + 1) (r (129 + 4 * z + 0)) else ml r i1 z n f).1 = Fc r i1 z (fo (Fc r i1) z n)
    by_cases e : r (129 + 4 * z + 1) = i1
    · rw [if_pos e, ih, Fc_1]
      show _ = if r (129 + 4 * z + 1) = i1 then _ else _
      rw [if_pos e]
    · rw [if_neg e, ih]
      show _ = if r (129 + 4 * z + 1) = i1 then _ else _
      rw [if_neg e]
theorem ff_snoc {p : Nat → Bool} : ∀ (k z : Nat), ff p (k + 1) z = match ff p k z with
    | some q => some q
    | none => if p (z + k) = true then some (z + k) else none := by
  intro k
  induction k with
  | zero => intro z; rw [ff]; simp [ff]
  | succ k ih =>
    intro z
    rw [ff, ih (z + 1)]
    rw [ff]
    by_cases e : p z = true
    · simp [e]
    · simp only [e]
      rw [show z + 1 + k = z + (k + 1) by omega]
      rfl
theorem ml_2 {r : Nat → Int32} {i1 : Int32} : ∀ (z : Nat) (n f : Int32), (ml r i1 z n f).2 = match ff (pz r i1) z 0 with
    | none => f
    | some g => r (129 + 4 * g + 0) := by
  intro z
  induction z with
  | zero => intro n f; rfl
  | succ z ih =>
    intro n f
    show (if r (129 + 4 * z + 1) = i1 then ml r i1 z (n + 1) (r (129 + 4 * z + 0)) else ml r i1 z n f).2 = _
    rw [ff_snoc, Nat.zero_add]
    by_cases e : r (129 + 4 * z + 1) = i1
    · have ep : pz r i1 z = true := decide_eq_true e
      rw [if_pos e, ih]
      cases ff (pz r i1) z 0 with
      | none => simp [ep]
      | some g => rfl
    · have ep : ¬ pz r i1 z = true := by unfold pz; simpa using e
      rw [if_neg e, ih]
      cases ff (pz r i1) z 0 with
      | none => simp [ep]
      | some g => rfl
theorem ff_congr {p q : Nat → Bool} : ∀ (k z : Nat), (∀ y, z ≤ y → y < z + k → p y = q y) → ff p k z = ff q k z := by
  intro k
  induction k with
  | zero => intro z _; rfl
  | succ k ih =>
    intro z hp
    rw [ff, ff, hp z (by omega) (by omega), ih _ (fun y h1 h2 => hp y (by omega) (by omega))]
theorem ff_lt {p : Nat → Bool} : ∀ (k z g : Nat), ff p k z = some g → z ≤ g ∧ g < z + k := by
  intro k
  induction k with
  | zero => intro z g e; cases e
  | succ k ih =>
    intro z g e
    rw [ff] at e
    by_cases c : p z = true
    · rw [if_pos c] at e; cases e; omega
    · rw [if_neg c] at e
      have := ih _ _ e
      omega
section
variable {h : mxH} {a : Nat} {r : Nat → Int32} {np ns nl : Nat}
theorem cm_cell (C : CpN (vw h a) r np ns nl) {g w : Nat} (hg : g < nl) (hw : w < 4) : V_3 h a (nI g) (nI w) = r (129 + 4 * g + w) := by
  have hl := C_nl60 C
  unfold V_3
  rw [if_neg (nI_pos (by omega)), C_l C, if_pos (nI_lt hg (by omega)), if_neg (nI_pos (by omega)), if_pos (show nI w < 4 from nI_lt (b := 4) hw (by decide)), bk_ix hg hl hw, nI_clamp (by omega)]
  exact C.2.2.2.2.2 g w hg hw
theorem cm_rows (C : CpN (vw h a) r np ns nl) (i1 : Int32) : V_4 h a i1 = fo (Fc r i1) nl 0 := by
  have hl := C_nl60 C
  unfold V_4
  rw [C_l C, nI_clamp (by omega)]
  refine fo_congr (fun z hz s => ?_)
  unfold F_4_4 Fc
  rw [show V_3 h a (nI z) 1 = r (129 + 4 * z + 1) from cm_cell C (w := 1) hz (by decide)]
theorem cm_latest (C : CpN (vw h a) r np ns nl) (i1 : Int32) : V_5 h a i1 = match ff (pz r i1) nl 0 with
    | none => -1
    | some g => r (129 + 4 * g + 0) := by
  have hl := C_nl60 C
  unfold V_5
  rw [C_l C, nI_clamp (by omega), ff_congr (q := pz r i1) nl 0 (fun y _ hy => by
    unfold pz
    rw [show V_3 h a (nI y) 1 = r (129 + 4 * y + 1) from cm_cell C (w := 1) (by omega) (by decide)])]
  cases e : ff (pz r i1) nl 0 with
  | none => rfl
  | some g =>
    have := ff_lt _ _ _ e
    exact cm_cell C (w := 0) (by omega) (by decide)
end
theorem op_led {LW : mxLW} (ok : LWok LW) (i1 i2 : Int32) : Op LW 177 297 [.int i1, .int i2] (fun k => if k = 2 then 1 else 0) := by
  intro h vn vd vr vq np ns nl I
  have C := I.2.2.1
  have h10 := C_ns10 C
  have hl := C_nl60 C
  have s0 : (0 : Int32) ≤ mx_i h 382 4 := C_ns C ▸ nI0 (by omega)
  have cl : cB (mx_i h (vn + 13) 0) 60 := ⟨nl, hl, C_l C⟩
  refine tr_177_0 I.1 I.2.1 ⟨fun c => ⟨⟨fun _ => ⟨cl, trivial⟩, fun _ => ⟨cl, trivial⟩⟩, fun v2 e2 hm hmd => ?_⟩, fun c hm hmd => ?_⟩
  · rw [C_s C, ← C_ns C] at c
    have em : mx_i hm 382 = mx_i h 382 := md_382 hmd 382
    have G := agr_G (P := fun _ => False) (agr_mdl hmd) I.1
    refine tr_297_0 G ⟨v01, fun v3 e3 h3 e4 => ?_⟩
    unfold V_201 at e3
    rw [em, v191_y s0 c] at e3
    have e3 : v3 = 0 := by simpa using e3
    subst e3
    have em3 : mx_i h3 382 = mx_i h 382 := by rw [e4, thr382, em]
    have t3 : mx_i h3 381 0 = 0 := by rw [e4, thr0]
    have G3 : mxG h3 := e4 ▸ mxG_wi G
    rw [t3]
    refine ⟨fun q => absurd q (by decide), fun _ => ?_⟩
    have L : ∀ (z : Nat) (n f : Int32), z ≤ nl → v2 = (if i2 = 0 then (ml (mx_i h 382) i1 z n f).1 else (ml (mx_i h 382) i1 z n f).2) → H_297_25 500 h3 i1 i2 n f (nI z - 1) (fun o2 h2 => ∃ b, o2 = .inl (some (.int b)) ∧ ansOk (fun k => if k = 2 then 1 else 0) (.inl (some (.int v2))) b (mx_i h2 381 0) ∧ bud h h2 ∧ ∃ vn vd vr vq np ns nl, Inv LW h2 vn vd vr vq np ns nl) := by
      intro z
      induction z with
      | zero =>
        intro n f _ hv
        refine tr_297_25 (d := 498) G3 ⟨fun _ v e => ?_, fun q => absurd (by decide) q⟩
        subst e4
        exact op_fin ok I (smr_mdl hmd) (bud_mdl hmd) ⟨rfl, by rw [hv, e]; rfl⟩
      | succ z ih =>
        intro n f hz hv
        rw [nI_pred]
        have ix : ∀ w, w < 4 → (129 + 4 * nI z + nI w : Int32) = nI (129 + 4 * z + w) := fun w hw => by
          rw [show (129 : Int32) = nI 129 from rfl, show (4 : Int32) = nI 4 from rfl, pk_mul, nI_add, nI_add]
        have e1 : V_296 (mx_i h3 382) (nI z) 1 = mx_i h 382 (129 + 4 * z + 1) := by
          unfold V_296; rw [show (1 : Int32) = nI 1 from rfl, ix 1 (by decide), nI_clamp (by omega), em3]
        have e0 : V_296 (mx_i h3 382) (nI z) 0 = mx_i h 382 (129 + 4 * z + 0) := by
          unfold V_296; rw [show (0 : Int32) = nI 0 from rfl, ix 0 (by decide), nI_clamp (by omega), em3]
        refine tr_297_25 (d := 498) G3 ⟨fun q => absurd q (nI_pos (by omega)), fun _ => ⟨?_, ⟨fun _ => ⟨?_, trivial⟩, fun _ => trivial⟩, fun v5 e5 v6 e6 => ?_⟩⟩
        · show vp_in (129 + 4 * nI z + nI 1) 769
          rw [ix 1 (by decide)]; exact vp_in_nI (by omega) (by decide)
        · show vp_in (129 + 4 * nI z + nI 0) 769
          rw [ix 0 (by decide)]; exact vp_in_nI (by omega) (by decide)
        · rw [e1] at e5 e6
          rw [e0] at e6
          have em1 : nI z + (-1) = nI z - 1 := by grind
          rw [em1]
          refine ih v5 v6 (by omega) ?_
          rw [hv, e5, e6, ml]
          by_cases q : mx_i h 382 (129 + 4 * z + 1) = i1
          · simp only [if_pos q]
          · simp only [if_neg q]
    rw [em3, C_nl C]
    refine L nl 0 (-1) (Nat.le_refl _) ?_
    rw [e2, ml_1, ml_2, cm_rows C, cm_latest C]
  · rw [C_s C, ← C_ns C] at c
    have em : mx_i hm 382 = mx_i h 382 := md_382 hmd 382
    refine tr_297_0 (agr_G (P := fun _ => False) (agr_mdl hmd) (mxG_ex I.1)) ⟨v01, fun v3 e3 h3 e4 => ?_⟩
    unfold V_201 at e3
    rw [em, v191_n s0 c] at e3
    have e3 : v3 = 1 := by simpa using e3
    subst e3
    subst e4
    rw [thr0]
    exact ⟨fun _ => op_fin ok I (smr_tr smr_ex (smr_mdl hmd)) (bud_ex hmd) ⟨rfl, by decide⟩, fun q => absurd (by decide) q⟩

/-! pays -/
theorem bt_m1x {x y : Int32} {i : Nat} (hi : i < 32) : bt (x &&& (y ^^^ (-1))) i = (bt x i && !bt y i) := by
  rw [b_and, b_xor, b_m1 i hi]
  cases bt x i <;> cases bt y i <;> rfl
theorem sub_le {z n : Nat} (hz : z < 2 ^ 31) (h : nI z &&& (nI n ^^^ (-1)) = 0) : z ≤ n := by
  have : z &&& n = z := by
    apply Nat.eq_of_testBit_eq
    intro i
    rw [Nat.testBit_and]
    by_cases hi : i < 32
    · have e := congrArg (fun x => bt x i) h
      simp only [bt_m1x hi, b_0, bt_nI hi] at e
      cases hb : z.testBit i
      · simp
      · simp [hb] at e; simp [e]
    · rw [Nat.testBit_lt_two_pow (Nat.lt_of_lt_of_le hz (Nat.pow_le_pow_right (by decide) (by omega)))]
      simp
  rw [← this]
  exact Nat.and_le_right
theorem orS_nI {n : Nat} (hn : n ≤ 10) (p : Nat → Bool) : ∃ m : Nat, m < 2 ^ n ∧ orS n p = nI m := by
  induction n with
  | zero => exact ⟨0, by decide, rfl⟩
  | succ n ih =>
    obtain ⟨m, hm, e⟩ := ih (by omega)
    have hp : 2 ^ (n + 1) = 2 * 2 ^ n := by rw [Nat.pow_succ]; omega
    have es : orS (n + 1) p = if p n = true then orS n p ||| ((1 : Int32) <<< (nI n &&& 31)) else orS n p := rfl
    rw [es]
    by_cases c : p n = true
    · refine ⟨m + 2 ^ n, by omega, ?_⟩
      rw [if_pos c, e]
      apply b_ext
      intro i hi
      rw [b_or, b_one (by omega) hi, bt_nI hi, bt_nI hi]
      have hor : m + 2 ^ n = 2 ^ n ||| m := by
        have q := Nat.two_pow_add_eq_or_of_lt hm 1
        rw [Nat.mul_one] at q
        rw [Nat.add_comm]; exact q
      rw [hor, Nat.testBit_or, Nat.testBit_two_pow]
      by_cases hin : i = n
      · subst hin; simp
      · have : ¬ n = i := fun q => hin q.symm
        simp [hin, this]
    · refine ⟨m, by omega, ?_⟩
      rw [if_neg c, e]
theorem pow10 {n : Nat} (h : n ≤ 10) : 2 ^ n ≤ 1024 := Nat.le_trans (Nat.pow_le_pow_right (by decide) h) (by decide)
theorem one_shl {n : Nat} (hn : n ≤ 10) : ((1 : Int32) <<< (nI n &&& 31)) = nI (2 ^ n) := by
  have : ∀ n : Fin 11, ((1 : Int32) <<< (nI n.val &&& 31)) = nI (2 ^ n.val) := by decide +kernel
  exact this ⟨n, by omega⟩
section
variable {h : mxH} {a : Nat} {r : Nat → Int32} {np ns nl : Nat}
theorem wt_bd (C : CpN (vw h a) r np ns nl) (x : Int32) : ∃ m : Nat, m ≤ 400 ∧ V_204 r x = nI m := by
  have hn := C_ns10 C
  rw [md_204 (C_ns C) hn]
  obtain ⟨m, hm, e⟩ := smS_bd (n := ns) (B := 40) (f := fun z => if bt x z then r (69 + 6 * z + 2) else 0) (fun z hz => by
    by_cases e : bt x z = true
    · obtain ⟨q, hq, e2⟩ := Cs_wn C hz
      exact ⟨q, hq, by simp only [if_pos e]; exact e2⟩
    · exact ⟨0, by omega, by simp only [if_neg e]; rfl⟩)
  exact ⟨m, Nat.le_trans hm (by have := Nat.mul_le_mul_right 40 hn; omega), e⟩
theorem wt_nn (C : CpN (vw h a) r np ns nl) (x : Int32) : ¬ V_204 r x < 0 := by
  obtain ⟨m, hm, e⟩ := wt_bd C x
  rw [e]; exact nI_pos (by omega)
theorem wt_0 (C : CpN (vw h a) r np ns nl) : V_204 r 0 = 0 := by
  have hn := C_ns10 C
  rw [md_204 (C_ns C) hn]
  have : smS ns (fun z => if bt 0 z then r (69 + 6 * z + 2) else 0) = smS ns (fun _ => 0) := smS_congr (fun z hz => by rw [b_0]; rfl)
  rw [this]
  have z0 : ∀ n, smS n (fun _ => 0) = 0 := by
    intro n
    induction n with
    | zero => rfl
    | succ n ih => show smS n (fun _ => 0) + 0 = 0; rw [ih]; rfl
  exact z0 ns
theorem owed_bd (C : CpN (vw h a) r np ns nl) (x : Int32) : ∃ m : Nat, m < 2 ^ ns ∧ V_243 r x 0 = nI m := by
  rw [show V_243 r x 0 = _ from md_243 (C_ns C) (C_ns10 C) x 0 (by omega)]
  exact orS_nI (C_ns10 C) _
/-- the class's search, up to what is owed, is the reference's -/
theorem pays_rel (C : CpN (vw h a) r np ns nl) {x : Nat} (hx : x < np) (i2 : Int32) {m : Nat} (hm : m < 1024) : ∀ z, z ≤ m + 1 → (fo (F_8_11 h a (nI x) (nI m)) z (0, 0)).1 = fo (F_273_23 r (nI x) i2 (nI m)) z 0 ∧ (fo (F_8_11 h a (nI x) (nI m)) z (0, 0)).2 = V_204 r (fo (F_273_23 r (nI x) i2 (nI m)) z 0) := by
  have h6 := C_np6 C
  intro z
  induction z with
  | zero => intro _; exact ⟨rfl, (wt_0 C).symm⟩
  | succ z ih =>
    intro hz
    obtain ⟨e1, e2⟩ := ih (by omega)
    have a1 : fo (F_8_11 h a (nI x) (nI m)) (z + 1) (0, 0) = F_8_11 h a (nI x) (nI m) z (fo (F_8_11 h a (nI x) (nI m)) z (0, 0)) := rfl
    have a2 : fo (F_273_23 r (nI x) i2 (nI m)) (z + 1) 0 = F_273_23 r (nI x) i2 (nI m) z (fo (F_273_23 r (nI x) i2 (nI m)) z 0) := rfl
    rw [a1, a2]
    clear a1 a2 ih
    generalize fo (F_8_11 h a (nI x) (nI m)) z (0, 0) = s at e1 e2 ⊢
    generalize fo (F_273_23 r (nI x) i2 (nI m)) z 0 = t at e1 e2 ⊢
    unfold F_8_11 F_273_23
    simp only [nI_clamp (show x < 2 ^ 31 by omega), Cu2 C hx, cm_weightOf C, u0 (show x < 100 by omega), e1, e2]
    by_cases c0 : nI z &&& (nI m ^^^ (-1)) = 0
    · by_cases c1 : V_204 r t < V_204 r (nI z)
      · by_cases c2 : r (33 + 6 * x + 0) < V_204 r (nI z)
        · constructor <;> simp only [if_pos c0, if_pos c1, if_pos c2]
        · constructor <;> simp only [if_pos c0, if_pos c1, if_neg c2]
      · by_cases c2 : r (33 + 6 * x + 0) < V_204 r (nI z)
        · constructor <;> simp only [if_pos c0, if_neg c1, if_pos c2]
        · constructor <;> simp only [if_pos c0, if_neg c1, if_neg c2]
    · have c1 : ¬ V_204 r t < 0 := wt_nn C t
      constructor <;> simp only [if_neg c0, if_neg c1]
theorem pays_hi {i1 i2 : Int32} {m : Nat} : ∀ k, m + 1 + k ≤ 1024 → fo (F_273_23 r i1 i2 (nI m)) (m + 1 + k) 0 = fo (F_273_23 r i1 i2 (nI m)) (m + 1) 0 := by
  intro k
  induction k with
  | zero => intro _; rfl
  | succ k ih =>
    intro hk
    show F_273_23 r i1 i2 (nI m) (m + 1 + k) (fo (F_273_23 r i1 i2 (nI m)) (m + 1 + k) 0) = _
    rw [ih (by omega)]
    unfold F_273_23
    rw [if_neg (fun e => by have := sub_le (by omega) e; omega)]
theorem cm_pays (C : CpN (vw h a) r np ns nl) {x : Nat} (hx : x < np) (i2 : Int32) : V_8 h a (nI x) = fo (F_273_23 r (nI x) i2 (V_243 r (nI x) 0)) (2 ^ ns) 0 := by
  have hn := pow10 (C_ns10 C)
  obtain ⟨m, hm, e⟩ := owed_bd C (nI x)
  unfold V_8
  rw [cm_owed C, e, nI_clamp (by omega)]
  have h1 := (pays_rel C hx i2 (show m < 1024 by omega) (m + 1) (Nat.le_refl _)).1
  have h2 := pays_hi (r := r) (i1 := nI x) (i2 := i2) (m := m) (2 ^ ns - (m + 1)) (by omega)
  rw [show m + 1 + (2 ^ ns - (m + 1)) = 2 ^ ns by omega] at h2
  rw [h2]; exact h1
end
theorem op_pays {LW : mxLW} (ok : LWok LW) (i1 i2 : Int32) : Op LW 163 273 [.int i1, .int i2] (fun k => if k = 2 then 1 else 0) := by
  intro h vn vd vr vq np ns nl I
  have C := I.2.2.1
  have h6 := C_np6 C
  have h10 := C_ns10 C
  have hp := pow10 h10
  have n0 : (0 : Int32) ≤ mx_i h 382 3 := C_np C ▸ nI0 (by omega)
  refine tr_163_0 I.1 I.2.1 ⟨fun c => ?_, fun c hm hmd => ?_⟩
  · rw [C_p C] at c
    have c' : isI i1 (mx_i h 382 3) := by rw [C_np C]; exact c
    obtain ⟨x, hx, rfl⟩ := isI_nI (by omega) c
    obtain ⟨m, hm1, e⟩ := owed_bd C (nI x)
    refine ⟨C_cs C, vp_in_nI (by omega) (by decide), ⟨m, by omega, by rw [cm_owed C, e]⟩, fun v5 e5 hm hmd => ?_⟩
    have em : mx_i hm 382 = mx_i h 382 := md_382 hmd 382
    have G := agr_G (P := fun _ => False) (agr_mdl hmd) I.1
    refine tr_273_0 G ⟨v01, fun v2 e2 h3 e3 => ?_⟩
    unfold V_200 at e2
    rw [em, v191_y n0 c'] at e2
    have e2 : v2 = 0 := by simpa using e2
    subst e2
    have em3 : mx_i h3 382 = mx_i h 382 := by rw [e3, thr382, em]
    have t3 : mx_i h3 381 0 = 0 := by rw [e3, thr0]
    have cs : cB (mx_i h3 382 4) 10 := by rw [em3]; exact C_rs C
    rw [t3]
    refine ⟨fun q => absurd q (by decide), fun _ => ⟨cs, by unfold isI; decide, ?_⟩⟩
    refine lp_273_23 (d := 498) (n := 2 ^ ns) 0 (e3 ▸ mxG_wi G) (by rw [em3, C_ns C, one_shl h10]) (by omega) (Nat.zero_le _) (fun z _ hz => ⟨⟨fun _ => ⟨cs, vpU (by omega), trivial⟩, fun _ => trivial⟩, trivial⟩) ⟨⟨fun _ => trivial, fun _ => ⟨cs, trivial⟩⟩, fun v6 e6 => ?_⟩
    rw [fz_fo, em3, ← cm_pays C hx i2] at e6
    subst e3
    refine op_fin ok I (smr_mdl hmd) (bud_mdl hmd) ⟨rfl, ?_⟩
    rw [e5, e6, cm_weightOf C]
  · rw [C_p C, ← C_np C] at c
    have em : mx_i hm 382 = mx_i h 382 := md_382 hmd 382
    refine tr_273_0 (agr_G (P := fun _ => False) (agr_mdl hmd) (mxG_ex I.1)) ⟨v01, fun v2 e2 h3 e3 => ?_⟩
    unfold V_200 at e2
    rw [em, v191_n n0 c] at e2
    have e2 : v2 = 1 := by simpa using e2
    subst e2
    subst e3
    rw [thr0]
    exact ⟨fun _ => op_fin ok I (smr_tr smr_ex (smr_mdl hmd)) (bud_ex hmd) ⟨rfl, by decide⟩, fun q => absurd (by decide) q⟩
