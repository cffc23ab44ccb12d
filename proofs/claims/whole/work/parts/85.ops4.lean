/-! OPS 4: way, pairs, heaviest, rests, owes, led -/
theorem wy_congr {lim t l : Int32} {sl sl' : Nat → Int32} (hs : ∀ q, q < 12 → sl q = sl' q) (ht : isI t 12) : ∀ (k : Nat) (p acc : Int32), isI p 12 → wy lim sl t l k p acc = wy lim sl' t l k p acc := by
  intro k
  induction k with
  | zero => intro p acc _; rfl
  | succ k ih =>
    intro p acc hp
    rw [wy, wy]
    by_cases e : p = t
    · rw [if_pos e, if_pos e]
    · rw [if_neg e, if_neg e]
      have hin := nx_in hp ht e
      obtain ⟨q, hq, eq⟩ := isI_nI (n := 12) (by decide) hin
      by_cases e2 : p + nx p t = 11 ∧ lim < l
      · rw [if_pos e2, if_pos e2]
      · rw [if_neg e2, if_neg e2, ih _ _ hin, eq, nI_clamp (by omega), hs q hq]
theorem isI_of_isR {x : Int32} (h : isR x 0 11) : isI x 12 := by
  obtain ⟨h1, h2⟩ := h
  unfold isI
  constructor <;> grind
section
variable {h : mxH} {a : Nat} {r : Nat → Int32} {np ns nl : Nat}
theorem cm_way (C : CpN (vw h a) r np ns nl) {x : Nat} (hx : x < np) {t : Int32} (ht : isI t 12) : V_116 h a (nI x) t = V_262 r (nI x) t := by
  have h6 := C_np6 C
  unfold V_116 V_262
  rw [nI_clamp (by omega), Cu4 C hx, cm_load C, C_limit C, u2 (by omega)]
  exact wy_congr (fun q hq => C_slope C hq) ht _ _ _ (isI_of_isR (Cu_l C hx))
theorem fz_congr {α : Type} {f g : Nat → α → α} {z0 n : Nat} {s : α} (hf : ∀ z, z0 ≤ z → z < n → ∀ s, f z s = g z s) : fz f z0 n s = fz g z0 n s := by
  unfold fz
  exact fo_congr (fun z hz s => hf _ (by omega) (by omega) s)
theorem cm_pairs (C : CpN (vw h a) r np ns nl) : V_120 h a = fo (fun p s => fz (F_287_17 r (nI p)) (p + 1) np s) np 0 := by
  have h6 := C_np6 C
  unfold V_120
  rw [C_p C, nI_clamp (by omega)]
  refine fo_congr (fun p hp s => fz_congr (fun z _ hz s => ?_))
  unfold F_120_13 F_287_17
  rw [cm_load C, cm_load C]
  by_cases e : V_205 r (nI p) = V_205 r (nI z) <;> simp [e]
theorem isR_nI {x : Int32} {m : Nat} (hm : m < 2 ^ 31) (h : isR x 0 (nI m)) : ∃ q : Nat, q ≤ m ∧ x = nI q := by
  have h0 : ¬ x < 0 := Int32.not_lt.mpr h.1
  obtain ⟨j, hj, rfl⟩ := nI_of h0
  exact ⟨j, (nI_leI hj hm).mp h.2, rfl⟩
theorem smS_bd {n B : Nat} {f : Nat → Int32} (hf : ∀ z, z < n → ∃ q : Nat, q ≤ B ∧ f z = nI q) : ∃ m : Nat, m ≤ n * B ∧ smS n f = nI m := by
  induction n with
  | zero => exact ⟨0, by omega, rfl⟩
  | succ n ih =>
    obtain ⟨m, hm, e⟩ := ih (fun z hz => hf z (by omega))
    obtain ⟨q, hq, e2⟩ := hf n (by omega)
    refine ⟨m + q, ?_, ?_⟩
    · rw [Nat.succ_mul]; omega
    · show smS n f + f n = _
      rw [e, e2, nI_add]
theorem isR_lo {x lo lo' hi : Int32} (h : isR x lo hi) (hl : lo' ≤ lo) : isR x lo' hi := ⟨Int32.le_trans hl h.1, h.2⟩
theorem Cs_wn (C : CpN (vw h a) r np ns nl) {z : Nat} (hz : z < ns) : ∃ q : Nat, q ≤ 40 ∧ r (69 + 6 * z + 2) = nI q := isR_nI (m := 40) (by decide) (isR_lo (Cs_w C hz) (by decide))
theorem load_bd (C : CpN (vw h a) r np ns nl) (x : Int32) : ∃ m : Nat, m ≤ 400 ∧ V_205 r x = nI m := by
  have hn := C_ns10 C
  rw [md_205 (C_ns C) hn]
  obtain ⟨m, hm, e⟩ := smS_bd (n := ns) (B := 40) (f := fun z => if r (69 + 6 * z + 3) = 0 ∧ r (69 + 6 * z + 4) = x then r (69 + 6 * z + 2) else 0) (fun z hz => by
    by_cases e : r (69 + 6 * z + 3) = 0 ∧ r (69 + 6 * z + 4) = x
    · obtain ⟨q, hq, e2⟩ := Cs_wn C hz
      exact ⟨q, hq, by simp only [if_pos e]; exact e2⟩
    · exact ⟨0, by omega, by simp only [if_neg e]; rfl⟩)
  exact ⟨m, Nat.le_trans hm (by have := Nat.mul_le_mul_right 40 hn; omega), e⟩
theorem cm_heaviest (C : CpN (vw h a) r np ns nl) : V_121 h a = fo (F_288_7 r) np (-1) := by
  have h6 := C_np6 C
  unfold V_121
  rw [C_p C, nI_clamp (by omega)]
  have L : ∀ z, z ≤ np → (fo (F_121_6 h a) z ((-1), (-1))).1 = fo (F_288_7 r) z (-1) ∧ ((fo (F_288_7 r) z (-1) = -1 ∧ (fo (F_121_6 h a) z ((-1), (-1))).2 = -1) ∨ ∃ j, j < z ∧ fo (F_288_7 r) z (-1) = nI j ∧ (fo (F_121_6 h a) z ((-1), (-1))).2 = V_205 r (nI j)) := by
    intro z
    induction z with
    | zero => intro _; exact ⟨rfl, .inl ⟨rfl, rfl⟩⟩
    | succ z ih =>
      intro hz
      obtain ⟨e1, e2⟩ := ih (by omega)
      have a1 : fo (F_121_6 h a) (z + 1) ((-1), (-1)) = F_121_6 h a z (fo (F_121_6 h a) z ((-1), (-1))) := rfl
      have a2 : fo (F_288_7 r) (z + 1) (-1) = F_288_7 r z (fo (F_288_7 r) z (-1)) := rfl
      rw [a1, a2]
      clear a1 a2 ih
      generalize fo (F_121_6 h a) z ((-1), (-1)) = s at e1 e2 ⊢
      generalize fo (F_288_7 r) z (-1) = t at e1 e2 ⊢
      unfold F_121_6 F_288_7
      simp only []
      rw [cm_load C, e1]
      rcases e2 with ⟨q1, q2⟩ | ⟨j, hj, q1, q2⟩
      · rw [q2, q1]
        obtain ⟨m, hm, em⟩ := load_bd C (nI z)
        have hlt : (-1 : Int32) < V_205 r (nI z) := by
          have := nI0 (n := m) (by omega)
          rw [em]; grind
        rw [if_pos hlt, if_pos hlt, if_pos rfl]
        exact ⟨rfl, .inr ⟨z, by omega, rfl, rfl⟩⟩
      · rw [q2, q1]
        have hne : ¬ nI j = (-1 : Int32) := fun e => absurd (e ▸ nI0 (n := j) (by omega)) (by decide)
        rw [if_neg hne]
        by_cases c : V_205 r (nI j) < V_205 r (nI z)
        · rw [if_pos c, if_pos c]
          exact ⟨rfl, .inr ⟨z, by omega, rfl, rfl⟩⟩
        · rw [if_neg c, if_neg c]
          exact ⟨rfl, .inr ⟨j, by omega, rfl, rfl⟩⟩
  exact (L np (Nat.le_refl _)).1
end
theorem op_way {LW : mxLW} (ok : LWok LW) (i1 i2 : Int32) : Op LW 153 263 [.int i1, .int i2] (fun k => if k = 2 then 1 else 0) := by
  intro h vn vd vr vq np ns nl I
  have C := I.2.2.1
  have h6 := C_np6 C
  have n0 : (0 : Int32) ≤ mx_i h 382 3 := C_np C ▸ nI0 (by omega)
  have no : (¬ isI i1 (mx_i h 382 3) ∨ ¬ isI i2 12) → ∀ hm, mdl (mx_ex h) hm → mx_wp 500 263 0 (mx_fr 263 [.ref 381, .int i1, .int i2]) [] hm (fun o2 h2 => ∃ b, o2 = .inl (some (.int b)) ∧ ansOk (fun k => if k = 2 then 1 else 0) (.inr 2) b (mx_i h2 381 0) ∧ bud h h2 ∧ ∃ vn vd vr vq np ns nl, Inv LW h2 vn vd vr vq np ns nl) := by
    intro hc hm hmd
    have em : mx_i hm 382 = mx_i h 382 := md_382 hmd 382
    refine tr_263_0 (agr_G (P := fun _ => False) (agr_mdl hmd) (mxG_ex I.1)) ⟨v01, ⟨fun _ => trivial, fun _ => ⟨v01, trivial⟩⟩, fun v2 e2 h3 e3 => ?_⟩
    have e2 : v2 = 1 := by
      rw [em] at e2
      unfold V_200 V_202 at e2
      rcases hc with hc | hc
      · rw [v191_n n0 hc] at e2; simpa using e2
      · rw [v191_n' (x := i2) (by decide) (by decide) hc] at e2; simpa using e2
    subst e2
    subst e3
    rw [thr0]
    exact ⟨⟨fun _ => trivial, fun q => absurd (by decide) q⟩, fun v6 e6 => op_fin ok I (smr_tr smr_ex (smr_mdl hmd)) (bud_ex hmd) ⟨rfl, by decide⟩⟩
  refine tr_153_0 I.1 I.2.1 ⟨fun c => ⟨fun c2 => ?_, fun c2 => no (.inr c2)⟩, fun c => no (.inl (by rw [C_np C, ← C_p C]; exact c))⟩
  rw [C_p C] at c
  have c' : isI i1 (mx_i h 382 3) := by rw [C_np C]; exact c
  obtain ⟨x, hx, rfl⟩ := isI_nI (by omega) c
  have hpl := isI_of_isR (Cu_l C hx)
  refine ⟨C_cs C, vp_in_nI (by omega) (by decide), ?_, c2, fun hm hmd => ?_⟩
  · rw [nI_clamp (by omega), Cu4 C hx]; exact hpl
  · have em : mx_i hm 382 = mx_i h 382 := md_382 hmd 382
    refine tr_263_0 (agr_G (P := fun _ => False) (agr_mdl hmd) I.1) ⟨v01, ⟨fun _ => trivial, fun _ => ⟨v01, trivial⟩⟩, fun v2 e2 h3 e3 => ?_⟩
    have e2 : v2 = 0 := by
      rw [em] at e2
      unfold V_200 V_202 at e2
      rw [v191_y n0 c', v191_y' (x := i2) (by decide) (by decide) c2] at e2; simpa using e2
    subst e2
    subst e3
    rw [thr0, thr382, em]
    refine ⟨⟨fun _ => trivial, fun _ => ⟨C_rs C, vpU (by omega), by rw [u2 (by omega)]; exact hpl, c2, trivial⟩⟩, fun v6 e6 => ?_⟩
    rw [if_neg (by decide)] at e6
    exact op_fin ok I (smr_mdl hmd) (bud_mdl hmd) ⟨rfl, by rw [e6]; exact cm_way C hx c2⟩
theorem op_pairs {LW : mxLW} (ok : LWok LW) : Op LW 161 287 [] (fun _ => 0) := by
  intro h vn vd vr vq np ns nl I
  have C := I.2.2.1
  have h6 := C_np6 C
  refine tr_161_0 I.1 I.2.1 ⟨C_cp C, C_cs C, fun hm hmd => ?_⟩
  have G := agr_G (P := fun _ => False) (agr_mdl hmd) I.1
  refine tr_287_0 G (fun h1 e1 => ?_)
  have em : mx_i h1 382 = mx_i h 382 := by rw [e1, thr382, md_382 hmd]
  have G1 : mxG h1 := e1 ▸ mxG_wi G
  have hB : mx_i h1 382 3 = nI np := by rw [em]; exact C_np C
  refine lp_up (P := fun s => H_287_7 500 h1 (fo (fun p s => fz (F_287_17 (mx_i h1 382) (nI p)) (p + 1) np s) s 0) (nI s) _) np ?_ (fun s hs ih => ?_)
  · refine tr_287_7 (d := 497) G1 ⟨fun c => absurd (hB ▸ c) Int32.lt_irrefl, fun _ => ?_⟩
    subst e1
    refine op_fin ok I (smr_mdl hmd) (bud_mdl hmd) ⟨rfl, ?_⟩
    rw [em]; exact cm_pairs C
  · refine tr_287_7 (d := 497) G1 ⟨fun _ => ?_, fun c => absurd (hB.symm ▸ nI_lt hs (by omega)) c⟩
    rw [← nI_succ]
    refine lp_287_17 (d := 497) (s + 1) G1 hB (by omega) (by omega) (fun z _ hz => ⟨by rw [em]; exact C_rs C, trivial⟩) ?_
    rw [nI_succ] at ih
    exact ih
theorem op_heaviest {LW : mxLW} (ok : LWok LW) : Op LW 162 288 [] (fun _ => 0) := by
  intro h vn vd vr vq np ns nl I
  have C := I.2.2.1
  have h6 := C_np6 C
  refine tr_162_0 I.1 I.2.1 ⟨C_cp C, C_cs C, fun hm hmd => ?_⟩
  have G := agr_G (P := fun _ => False) (agr_mdl hmd) I.1
  refine tr_288_0 G (fun h1 e1 => ?_)
  have em : mx_i h1 382 = mx_i h 382 := by rw [e1, thr382, md_382 hmd]
  have G1 : mxG h1 := e1 ▸ mxG_wi G
  refine lp_288_7 (d := 497) 0 G1 (by rw [em]; exact C_np C) (by omega) (Nat.zero_le _) (fun z _ hz => ⟨⟨fun _ => trivial, fun _ => ⟨by rw [em]; exact C_rs C, trivial⟩⟩, trivial⟩) ?_
  subst e1
  refine op_fin ok I (smr_mdl hmd) (bud_mdl hmd) ⟨rfl, ?_⟩
  rw [fz_fo, em]; exact cm_heaviest C
theorem cm_rests {h : mxH} {r : Nat → Int32} {w : Int32} {x : Int32} : V_16 h (V_196 r x 1 - V_205 r x) w = fo (F_278_32 r x w) 4 0 := by
  unfold V_16
  refine fo_congr (fun z hz s => ?_)
  have a0 : nI 0 / 2 = (0 : Int32) := by decide
  have a1 : nI 1 / 2 = (0 : Int32) := by decide
  have a2 : nI 2 / 2 = (1 : Int32) := by decide
  have a3 : nI 3 / 2 = (1 : Int32) := by decide
  have b0 : nI 0 - (0 : Int32) * 2 = 0 := by decide
  have b1 : nI 1 - (0 : Int32) * 2 = 1 := by decide
  have b2 : nI 2 - (1 : Int32) * 2 = 0 := by decide
  have b3 : nI 3 - (1 : Int32) * 2 = 1 := by decide
  have c1 : (1 : Int32) - 0 = 1 := by decide
  have c2 : (1 : Int32) - 1 = 0 := by decide
  have : z = 0 ∨ z = 1 ∨ z = 2 ∨ z = 3 := by omega
  rcases this with rfl | rfl | rfl | rfl
  · simp only [F_16_4, F_278_32, V_17, V_18, V_276, V_277, a0, b0, c1, if_true, if_false, (by decide : ¬ (0 : Int32) = 1), (by decide : ¬ (1 : Int32) = 0)]
  · simp only [F_16_4, F_278_32, V_17, V_18, V_276, V_277, a1, b1, c1, c2, if_true, if_false, (by decide : ¬ (0 : Int32) = 1), (by decide : ¬ (1 : Int32) = 0)]
  · simp only [F_16_4, F_278_32, V_17, V_18, V_276, V_277, a2, b2, c1, c2, if_true, if_false, (by decide : ¬ (0 : Int32) = 1), (by decide : ¬ (1 : Int32) = 0)]
  · simp only [F_16_4, F_278_32, V_17, V_18, V_276, V_277, a3, b3, c1, c2, if_true, if_false, (by decide : ¬ (0 : Int32) = 1), (by decide : ¬ (1 : Int32) = 0)]
theorem op_rests {LW : mxLW} (ok : LWok LW) (i1 i2 i3 : Int32) : Op LW 165 278 [.int i1, .int i2, .int i3] (fun k => if k = 2 then 1 else if k = 0 then 2 else 0) := by
  intro h vn vd vr vq np ns nl I
  have C := I.2.2.1
  have h6 := C_np6 C
  have n0 : (0 : Int32) ≤ mx_i h 382 3 := C_np C ▸ nI0 (by omega)
  -- what is thrown
  have no : ∀ (k : Nat) (t : Int32), 0 < t → ((fun k => if k = 2 then 1 else if k = 0 then 2 else 0 : Nat → Int32) k = t) → t = (if V_200 (mx_i h 382) i1 = 0 then 1 else if V_200 (mx_i h 382) i2 = 0 then 1 else if i1 = i2 then 2 else if V_191 (mx_i h 382) i3 1 40 = 0 then 2 else 0 : Int32) → ∀ hm, mdl (mx_ex h) hm → mx_wp 500 278 0 (mx_fr 278 [.ref 381, .int i1, .int i2, .int i3]) [] hm (fun o2 h2 => ∃ b, o2 = .inl (some (.int b)) ∧ ansOk (fun k => if k = 2 then 1 else if k = 0 then 2 else 0) (.inr k) b (mx_i h2 381 0) ∧ bud h h2 ∧ ∃ vn vd vr vq np ns nl, Inv LW h2 vn vd vr vq np ns nl) := by
    intro k t ht hk et hm hmd
    have em : mx_i hm 382 = mx_i h 382 := md_382 hmd 382
    refine tr_278_0 (agr_G (P := fun _ => False) (agr_mdl hmd) (mxG_ex I.1)) ⟨v01, ⟨fun _ => trivial, fun _ => ⟨v01, trivial⟩⟩, fun v2 e2 h3 e3 => ?_⟩
    rw [em] at e2
    have : v2 = t := by rw [e2, et]
    subst this
    subst e3
    rw [thr0]
    refine ⟨fun _ => op_fin ok I (smr_tr smr_ex (smr_mdl hmd)) (bud_ex hmd) ⟨hk.symm, ?_⟩, fun q => absurd ht q⟩
    rw [hk]; exact fun e => absurd (e ▸ ht) (by decide)
  have y1 : isI i1 (nI np) → V_200 (mx_i h 382) i1 = 1 := fun c => by unfold V_200; exact v191_y n0 (by rw [C_np C]; exact c)
  have y2 : isI i2 (nI np) → V_200 (mx_i h 382) i2 = 1 := fun c => by unfold V_200; exact v191_y n0 (by rw [C_np C]; exact c)
  refine tr_165_0 I.1 I.2.1 ⟨fun c => ?_, fun c => no 2 1 (by decide) (by decide) ?_⟩
  · rw [C_p C] at c ⊢
    refine ⟨fun c2 => ⟨fun e => no 0 2 (by decide) (by decide) ?_, fun e => ⟨fun c3 => no 0 2 (by decide) (by decide) ?_, fun c3 => ⟨fun c4 => no 0 2 (by decide) (by decide) ?_, fun c4 => ?_⟩⟩⟩, fun c2 => no 2 1 (by decide) (by decide) ?_⟩
    · rw [y1 c, y2 c2, if_neg (by decide), if_neg (by decide), if_pos e]
    · rw [y1 c, y2 c2, if_neg (by decide), if_neg (by decide), if_neg e]
      unfold V_191
      rw [if_pos c3, if_pos rfl]
    · rw [y1 c, y2 c2, if_neg (by decide), if_neg (by decide), if_neg e]
      unfold V_191
      rw [if_neg c3, if_pos c4, if_pos rfl]
    · have c2' := c2
      obtain ⟨x, hx, rfl⟩ := isI_nI (by omega) c2'
      refine ⟨vp_in_nI (by omega) (by decide), C_cs C, fun hm hmd => ?_⟩
      have em : mx_i hm 382 = mx_i h 382 := md_382 hmd 382
      refine tr_278_0 (agr_G (P := fun _ => False) (agr_mdl hmd) I.1) ⟨v01, ⟨fun _ => trivial, fun _ => ⟨v01, trivial⟩⟩, fun v2 e2 h3 e3 => ?_⟩
      have e2 : v2 = 0 := by
        rw [em, y1 c, y2 c2, if_neg (by decide), if_neg (by decide), if_neg e] at e2
        unfold V_191 at e2
        rw [if_neg c3, if_neg c4, if_neg (by decide)] at e2
        exact e2
      subst e2
      have em3 : mx_i h3 382 = mx_i h 382 := by rw [e3, thr382, em]
      have t3 : mx_i h3 381 0 = 0 := by rw [e3, thr0]
      rw [t3]
      refine ⟨fun q => absurd q (by decide), fun _ => ?_⟩
      have cs : cB (mx_i h3 382 4) 10 := by rw [em3]; exact C_rs C
      refine lp_278_32 (d := 496) (n := 4) 0 (e3 ▸ mxG_wi (agr_G (P := fun _ => False) (agr_mdl hmd) I.1)) rfl (by decide) (by decide) (fun z _ hz => ⟨⟨fun _ => trivial, fun _ => ⟨⟨fun _ => trivial, fun _ => ⟨vpU (by omega), cs, trivial⟩⟩, ⟨fun _ => trivial, fun _ => ⟨vpU (by omega), cs, trivial⟩⟩, trivial⟩⟩, trivial⟩) ?_
      subst e3
      refine op_fin ok I (smr_mdl hmd) (bud_mdl hmd) ⟨rfl, ?_⟩
      rw [fz_fo, em3, nI_clamp (by omega), Cu3 C hx, cm_load C, ← cm_rests (h := h), u1 (by omega)]
    · rw [y1 c, if_neg (by decide), if_pos]
      unfold V_200
      exact v191_n n0 (by rw [C_np C]; exact c2)
  · rw [if_pos]
    unfold V_200
    exact v191_n n0 (by rw [C_np C, ← C_p C]; exact c)

/-! owes -/
theorem cm_owes {h : mxH} {a : Nat} {r : Nat → Int32} {np ns nl : Nat} (C : CpN (vw h a) r np ns nl) (x i2 i4 : Int32) : V_82 h a x = fo (fun _ s => fo (F_275_34 r i2 i4) ns s) 6 ((1 : Int32) <<< (x &&& 31)) := by
  have hn := C_ns10 C
  unfold V_82
  rw [C_s C, nI_clamp (by omega)]
  refine fo_congr (fun _ _ s => fo_congr (fun z hz s => ?_))
  unfold F_82_11 F_275_34 V_194
  rw [nI_clamp (by omega), Cs11 C hz, Cs8 C hz, Cs9 C hz, w3 (by omega), w0 (by omega), w1 (by omega)]
  have := st_lt2 (Cs_s C hz)
  by_cases e : r (69 + 6 * z + 3) = 2
  · simp [this, e]
  · by_cases e2 : ((s >>> (r (69 + 6 * z + 0) &&& 31)) &&& 1) = 1 <;> simp_all
theorem op_owes {LW : mxLW} (ok : LWok LW) (i1 i2 : Int32) : Op LW 164 275 [.int i1, .int i2] (fun k => if k = 2 then 1 else if k = 0 then 2 else 0) := by
  intro h vn vd vr vq np ns nl I
  have C := I.2.2.1
  have h6 := C_np6 C
  have h10 := C_ns10 C
  have n0 : (0 : Int32) ≤ mx_i h 382 3 := C_np C ▸ nI0 (by omega)
  have no : ∀ (k : Nat) (t : Int32), 0 < t → ((fun k => if k = 2 then 1 else if k = 0 then 2 else 0 : Nat → Int32) k = t) → t = (if V_200 (mx_i h 382) i1 = 0 then 1 else if V_200 (mx_i h 382) i2 = 0 then 1 else if i1 = i2 then 2 else 0 : Int32) → ∀ hm, mdl (mx_ex h) hm → mx_wp 500 275 0 (mx_fr 275 [.ref 381, .int i1, .int i2]) [] hm (fun o2 h2 => ∃ b, o2 = .inl (some (.int b)) ∧ ansOk (fun k => if k = 2 then 1 else if k = 0 then 2 else 0) (.inr k) b (mx_i h2 381 0) ∧ bud h h2 ∧ ∃ vn vd vr vq np ns nl, Inv LW h2 vn vd vr vq np ns nl) := by
    intro k t ht hk et hm hmd
    have em : mx_i hm 382 = mx_i h 382 := md_382 hmd 382
    refine tr_275_0 (agr_G (P := fun _ => False) (agr_mdl hmd) (mxG_ex I.1)) ⟨v01, ⟨fun _ => trivial, fun _ => ⟨v01, trivial⟩⟩, fun v2 e2 h3 e3 => ?_⟩
    rw [em] at e2
    have : v2 = t := by rw [e2, et]
    subst this
    subst e3
    rw [thr0]
    refine ⟨fun _ => op_fin ok I (smr_tr smr_ex (smr_mdl hmd)) (bud_ex hmd) ⟨hk.symm, ?_⟩, fun q => absurd ht q⟩
    rw [hk]; exact fun e => absurd (e ▸ ht) (by decide)
  have y1 : isI i1 (nI np) → V_200 (mx_i h 382) i1 = 1 := fun c => by unfold V_200; exact v191_y n0 (by rw [C_np C]; exact c)
  have y2 : isI i2 (nI np) → V_200 (mx_i h 382) i2 = 1 := fun c => by unfold V_200; exact v191_y n0 (by rw [C_np C]; exact c)
  refine tr_164_0 I.1 I.2.1 ⟨fun c => ?_, fun c => no 2 1 (by decide) (by decide) ?_⟩
  · rw [C_p C] at c ⊢
    refine ⟨fun c2 => ⟨fun e => no 0 2 (by decide) (by decide) ?_, fun e => ⟨C_cs C, fun v5 e5 hm hmd => ?_⟩⟩, fun c2 => no 2 1 (by decide) (by decide) ?_⟩
    · rw [y1 c, y2 c2, if_neg (by decide), if_neg (by decide), if_pos e]
    · have em : mx_i hm 382 = mx_i h 382 := md_382 hmd 382
      refine tr_275_0 (agr_G (P := fun _ => False) (agr_mdl hmd) I.1) ⟨v01, ⟨fun _ => trivial, fun _ => ⟨v01, trivial⟩⟩, fun v2 e2 h3 e3 => ?_⟩
      have e2 : v2 = 0 := by
        rw [em, y1 c, y2 c2, if_neg (by decide), if_neg (by decide), if_neg e] at e2
        exact e2
      subst e2
      have em3 : mx_i h3 382 = mx_i h 382 := by rw [e3, thr382, em]
      have t3 : mx_i h3 381 0 = 0 := by rw [e3, thr0]
      have G3 : mxG h3 := e3 ▸ mxG_wi (agr_G (P := fun _ => False) (agr_mdl hmd) I.1)
      have hB : mx_i h3 382 4 = nI ns := by rw [em3]; exact C_ns C
      rw [t3]
      refine ⟨fun q => absurd q (by decide), fun _ => ?_⟩
      refine lp_up (P := fun s => H_275_29 500 h3 i2 (fo (fun _ s => fo (F_275_34 (mx_i h 382) i2 0) ns s) s ((1 : Int32) <<< (i1 &&& 31))) (nI s) _) 6 ?_ (fun s hs ih => ?_)
      · refine tr_275_29 (d := 498) G3 ⟨fun q => absurd q (by decide), fun _ => ?_⟩
        have h01 : ∀ (q : Int32), V_194 (mx_i h3 382) q i2 = 0 ∨ V_194 (mx_i h3 382) q i2 = 1 := fun q => by
          unfold V_194
          split
          · exact .inr rfl
          · exact .inl rfl
        refine ⟨h01 _, ?_⟩
        rw [← cm_owes C]
        subst e3
        refine op_fin ok I (smr_mdl hmd) (bud_mdl hmd) ⟨rfl, ?_⟩
        rw [e5]; rfl
      · refine tr_275_29 (d := 498) G3 ⟨fun _ => ?_, fun q => absurd (nI_lt hs (by decide)) q⟩
        refine lp_275_34 (d := 498) 0 G3 hB (by omega) (Nat.zero_le _) (fun z _ hz => ⟨vpS (by omega), ⟨fun _ => ⟨vpS (by omega), fun _ => trivial, fun _ => ⟨vpS (by omega), trivial⟩⟩, fun _ => trivial⟩, trivial⟩) ?_
        rw [fz_fo, em3]
        rw [nI_succ] at ih
        exact ih
    · rw [y1 c, if_neg (by decide), if_pos]
      unfold V_200
      exact v191_n n0 (by rw [C_np C]; exact c2)
  · rw [if_pos]
    unfold V_200
    exact v191_n n0 (by rw [C_np C, ← C_p C]; exact c)
