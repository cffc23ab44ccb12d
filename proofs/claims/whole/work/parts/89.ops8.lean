/-! OPS 8: shed -/
def h00 : mxH := (0, 0, 0, fun _ _ => 0, fun _ _ => 0, fun _ _ => 0)
theorem bc_eq : ∀ x : Fin 1024, V_306 h00 (nI x.val) = V_195 (fun _ => 0) (nI x.val) := by decide +kernel
theorem bc {h : mxH} {r : Nat → Int32} {x : Nat} (hx : x < 1024) : V_306 h (nI x) = V_195 r (nI x) := bc_eq ⟨x, hx⟩
/-- how many below n -/
def cN (p : Nat → Bool) : Nat → Nat
  | 0 => 0
  | n + 1 => cN p n + (if p n = true then 1 else 0)
theorem cN_le {p : Nat → Bool} (n : Nat) : cN p n ≤ n := by
  induction n with
  | zero => exact Nat.le_refl _
  | succ n ih => rw [cN]; split <;> omega
theorem cN_mono {p q : Nat → Bool} {n : Nat} (h : ∀ i, i < n → p i = true → q i = true) : cN p n ≤ cN q n := by
  induction n with
  | zero => exact Nat.le_refl _
  | succ n ih =>
    have := ih (fun i hi => h i (by omega))
    rw [cN, cN]
    by_cases c : p n = true
    · rw [if_pos c, if_pos (h n (by omega) c)]; omega
    · rw [if_neg c]; omega
theorem cN_lt {p q : Nat → Bool} {n i : Nat} (h : ∀ i, i < n → p i = true → q i = true) (hi : i < n) (hp : p i = false) (hq : q i = true) : cN p n < cN q n := by
  induction n with
  | zero => omega
  | succ n ih =>
    rw [cN, cN]
    by_cases e : i = n
    · subst e
      have := cN_mono (fun j hj => h j (by omega)) (n := i)
      rw [if_neg (by simp [hp]), if_pos hq]; omega
    · have := ih (fun j hj => h j (by omega)) (by omega)
      by_cases c : p n = true
      · rw [if_pos c, if_pos (h n (by omega) c)]; omega
      · rw [if_neg c]; omega
theorem smS_cN {p : Nat → Bool} (n : Nat) : smS n (fun i => if p i = true then 1 else 0) = nI (cN p n) := by
  induction n with
  | zero => rfl
  | succ n ih =>
    show smS n (fun i => if p i = true then 1 else 0) + (if p n = true then 1 else 0) = nI (cN p (n + 1))
    rw [ih, cN]
    by_cases c : p n = true
    · rw [if_pos c, if_pos c, nI_1]
    · rw [if_neg c, if_neg c]
      show nI _ + nI 0 = _
      rw [nI_add]
theorem bits_cN {r : Nat → Int32} (x : Int32) : V_195 r x = nI (cN (bt x) 31) := by
  unfold V_195
  rw [← smS_cN]
  refine smS_of (fun z hz s => ?_)
  unfold F_195_4
  rw [tbv x (by omega)]
theorem sub_tb {z n i : Nat} (h : nI z &&& (nI n ^^^ (-1)) = 0) (hi : i < 32) (hz : z.testBit i = true) : n.testBit i = true := by
  have e := congrArg (fun x => bt x i) h
  simp only [bt_m1x hi, b_0, bt_nI hi] at e
  cases hb : n.testBit i
  · rw [hz, hb] at e; exact absurd e (by decide)
  · rfl
theorem bits_lt {r : Nat → Int32} {z n : Nat} (hn : n < 1024) (h : nI z &&& (nI n ^^^ (-1)) = 0) (hne : z < n) : V_195 r (nI z) < V_195 r (nI n) := by
  rw [bits_cN, bits_cN]
  have hlt : cN (bt (nI z)) 31 < cN (bt (nI n)) 31 := by
    -- a bit of n that is not one of z
    have : ∃ i, i < 31 ∧ z.testBit i = false ∧ n.testBit i = true := by
      apply Classical.byContradiction
      intro hno
      have : z = n := by
        apply Nat.eq_of_testBit_eq
        intro i
        by_cases hi : i < 31
        · cases hz : z.testBit i
          · cases hb : n.testBit i
            · rfl
            · exact absurd ⟨i, hi, hz, hb⟩ hno
          · rw [sub_tb h (by omega) hz]
        · have hp : 1024 ≤ 2 ^ i := Nat.le_trans (by decide : 1024 ≤ 2 ^ 31) (Nat.pow_le_pow_right (by decide) (by omega))
          rw [Nat.testBit_lt_two_pow (by omega), Nat.testBit_lt_two_pow (by omega)]
      omega
    obtain ⟨i, hi, hz, hb⟩ := this
    refine cN_lt (i := i) (fun j hj hp => ?_) hi ?_ ?_
    · rw [bt_nI (by omega)] at hp ⊢
      exact sub_tb h (by omega) hp
    · rw [bt_nI (by omega)]; exact hz
    · rw [bt_nI (by omega)]; exact hb
  have := cN_le (p := bt (nI n)) 31
  exact nI_lt hlt (by omega)
theorem smS_add {n : Nat} {f g : Nat → Int32} : smS n f + smS n g = smS n (fun z => f z + g z) := by
  induction n with
  | zero => rfl
  | succ n ih =>
    show (smS n f + f n) + (smS n g + g n) = smS n (fun z => f z + g z) + (f n + g n)
    rw [← ih]
    grind
section
variable {h : mxH} {a : Nat} {r : Nat → Int32} {np ns nl : Nat}
theorem wt_split (C : CpN (vw h a) r np ns nl) {z n : Nat} (hs : nI z &&& (nI n ^^^ (-1)) = 0) : V_204 r (nI n) - V_204 r (nI z) = V_204 r (nI n &&& (nI z ^^^ (-1))) := by
  have hn := C_ns10 C
  have : V_204 r (nI z) + V_204 r (nI n &&& (nI z ^^^ (-1))) = V_204 r (nI n) := by
    rw [md_204 (C_ns C) hn, md_204 (C_ns C) hn, md_204 (C_ns C) hn, smS_add]
    refine smS_congr (fun i hi => ?_)
    rw [bt_m1x (by omega), bt_nI (by omega), bt_nI (by omega)]
    cases hz : z.testBit i
    · cases hb : n.testBit i <;> simp
    · rw [sub_tb hs (by omega) hz]; simp
  rw [← this]
  grind
theorem worn_bd (C : CpN (vw h a) r np ns nl) (x : Int32) : ∃ m : Nat, m < 2 ^ ns ∧ V_203 r x = nI m := by
  rw [md_203 (C_ns C) (C_ns10 C)]
  exact orS_nI (C_ns10 C) _
theorem and_self0 {x : Int32} : x &&& (x ^^^ (-1)) = 0 := by
  apply b_ext
  intro i hi
  rw [bt_m1x hi, b_0]
  cases bt x i <;> rfl
theorem shed_rel (C : CpN (vw h a) r np ns nl) {m : Nat} (hm : m < 1024) (mo : Int32) : ∀ z, z ≤ m → fo (F_7_23 h a (nI m) (V_204 r (nI m)) mo) z (nI m) = (if fo (F_266_32 r (nI m) mo) z (-1) = -1 then nI m else fo (F_266_32 r (nI m) mo) z (-1)) ∧ (fo (F_266_32 r (nI m) mo) z (-1) = -1 ∨ ∃ j, j < z ∧ fo (F_266_32 r (nI m) mo) z (-1) = nI j ∧ nI j &&& (nI m ^^^ (-1)) = 0) := by
  intro z
  induction z with
  | zero => intro _; exact ⟨rfl, .inl rfl⟩
  | succ z ih =>
    intro hz
    obtain ⟨e1, e2⟩ := ih (by omega)
    have a1 : fo (F_7_23 h a (nI m) (V_204 r (nI m)) mo) (z + 1) (nI m) = F_7_23 h a (nI m) (V_204 r (nI m)) mo z (fo (F_7_23 h a (nI m) (V_204 r (nI m)) mo) z (nI m)) := rfl
    have a2 : fo (F_266_32 r (nI m) mo) (z + 1) (-1) = F_266_32 r (nI m) mo z (fo (F_266_32 r (nI m) mo) z (-1)) := rfl
    rw [a1, a2, e1]
    clear a1 a2 ih e1
    generalize fo (F_266_32 r (nI m) mo) z (-1) = t at e2 ⊢
    have hzm : ¬ nI z = (-1 : Int32) := fun e => absurd (e ▸ nI0 (n := z) (by omega)) (by decide)
    unfold F_7_23 F_266_32
    by_cases c0 : nI z &&& (nI m ^^^ (-1)) = 0
    · rw [if_pos c0, if_pos c0, cm_weightOf C, wt_split C c0]
      rcases e2 with e2 | ⟨j, hj, q1, q2⟩
      · have hb : V_306 h (nI z) < V_306 h (nI m) := by rw [bc (r := r) (by omega), bc (r := r) hm]; exact bits_lt hm c0 (by omega)
        simp only [if_pos e2]
        rw [if_pos hb]
        by_cases c1 : mo < V_204 r (nI m &&& (nI z ^^^ (-1)))
        · rw [if_pos c1, if_pos c1, if_pos e2]; exact ⟨rfl, .inl e2⟩
        · rw [if_neg c1, if_neg c1, if_neg hzm]; exact ⟨rfl, .inr ⟨z, by omega, rfl, c0⟩⟩
      · have hjm : ¬ t = (-1 : Int32) := fun e => absurd ((q1.symm.trans e) ▸ nI0 (n := j) (by omega)) (by decide)
        simp only [if_neg hjm]
        rw [q1, bc (r := r) (x := z) (by omega), bc (r := r) (x := j) (by omega)]
        have hjm' : ¬ nI j = (-1 : Int32) := q1 ▸ hjm
        by_cases c1 : mo < V_204 r (nI m &&& (nI z ^^^ (-1)))
        · simp only [if_pos c1, ite_self, if_neg hjm']
          exact ⟨by trivial, .inr ⟨j, by omega, rfl, q2⟩⟩
        · simp only [if_neg c1]
          by_cases c2 : V_195 r (nI z) < V_195 r (nI j)
          · simp only [if_pos c2, if_neg hzm]; exact ⟨by trivial, .inr ⟨z, by omega, rfl, c0⟩⟩
          · simp only [if_neg c2, if_neg hjm']; exact ⟨by trivial, .inr ⟨j, by omega, rfl, q2⟩⟩
    · rw [if_neg c0, if_neg c0]
      refine ⟨rfl, ?_⟩
      rcases e2 with e2 | ⟨j, hj, q1, q2⟩
      · exact .inl e2
      · exact .inr ⟨j, by omega, q1, q2⟩
theorem shed_hi {mo : Int32} {m : Nat} (t0 : Int32) : ∀ k, m + 1 + k ≤ 1024 → fo (F_266_32 r (nI m) mo) (m + 1 + k) t0 = fo (F_266_32 r (nI m) mo) (m + 1) t0 := by
  intro k
  induction k with
  | zero => intro _; rfl
  | succ k ih =>
    intro hk
    show F_266_32 r (nI m) mo (m + 1 + k) (fo (F_266_32 r (nI m) mo) (m + 1 + k) t0) = _
    rw [ih (by omega)]
    unfold F_266_32
    rw [if_neg (fun e => by have := sub_le (by omega) e; omega)]
theorem cm_shed (C : CpN (vw h a) r np ns nl) {x : Nat} (hx : x < np) : V_7 h a (nI x) = fo (F_266_32 r (V_203 r (nI x)) (V_192 r (r 6) (V_196 r (nI x) 1))) (2 ^ ns) (-1) := by
  have hn := pow10 (C_ns10 C)
  have h6 := C_np6 C
  obtain ⟨m, hm, e⟩ := worn_bd C (nI x)
  have hxm : ¬ nI x = (-1 : Int32) := fun e => absurd (e ▸ nI0 (n := x) (by omega)) (by decide)
  have emo : (if mx_i h (a + 3) (nI x).toNatClampNeg < mx_i h a 5 then mx_i h (a + 3) (nI x).toNatClampNeg else mx_i h a 5) = V_192 r (r 6) (V_196 r (nI x) 1) := by
    rw [nI_clamp (by omega), Cu3 C hx, C_limit C, u1 (by omega)]
    unfold V_192
    by_cases c : r (33 + 6 * x + 1) < r 6
    · have : ¬ r 6 < r (33 + 6 * x + 1) := fun q => Int32.lt_irrefl (Int32.lt_trans c q)
      rw [if_pos c, if_neg this]
    · rw [if_neg c]
      by_cases c2 : r 6 < r (33 + 6 * x + 1)
      · rw [if_pos c2]
      · rw [if_neg c2]; grind
  have hmo : 1 ≤ V_192 r (r 6) (V_196 r (nI x) 1) := by
    rw [u1 (by omega)]
    unfold V_192
    have b1 := (Cu_b C hx).1
    have b2 : isR (r 6) 1 99 := C.2.1.2.2.2.2.2.2
    split
    · exact b2.1
    · exact b1
  unfold V_7
  rw [emo, cm_worn C hxm, e, cm_weightOf C, nI_clamp (by omega)]
  generalize V_192 r (r 6) (V_196 r (nI x) 1) = mo at hmo ⊢
  obtain ⟨h1, h2⟩ := shed_rel C (show m < 1024 by omega) mo m (Nat.le_refl _)
  have h3 := shed_hi (r := r) (mo := mo) (m := m) (-1) (2 ^ ns - (m + 1)) (by omega)
  rw [show m + 1 + (2 ^ ns - (m + 1)) = 2 ^ ns by omega] at h3
  rw [h3, h1]
  show _ = F_266_32 r (nI m) mo m (fo (F_266_32 r (nI m) mo) m (-1))
  generalize fo (F_266_32 r (nI m) mo) m (-1) = t at h2 ⊢
  unfold F_266_32
  rw [if_pos and_self0, and_self0, wt_0 C, if_neg (show ¬ mo < 0 by grind)]
  rcases h2 with h2 | ⟨j, hj, q1, q2⟩
  · rw [if_pos h2, if_pos h2]
  · have hjm : ¬ t = (-1 : Int32) := fun e => absurd ((q1.symm.trans e) ▸ nI0 (n := j) (by omega)) (by decide)
    have hb := bits_lt (r := r) (show m < 1024 by omega) q2 hj
    rw [if_neg hjm, if_neg hjm, q1, if_neg (fun q => Int32.lt_irrefl (Int32.lt_trans hb q))]
end
theorem op_shed {LW : mxLW} (ok : LWok LW) (i1 : Int32) : Op LW 156 266 [.int i1] (fun k => if k = 2 then 1 else 0) := by
  intro h vn vd vr vq np ns nl I
  have C := I.2.2.1
  have h6 := C_np6 C
  have h10 := C_ns10 C
  have hp := pow10 h10
  have n0 : (0 : Int32) ≤ mx_i h 382 3 := C_np C ▸ nI0 (by omega)
  refine tr_156_0 I.1 I.2.1 ⟨fun c => ?_, fun c hm hmd => ?_⟩
  · rw [C_p C] at c
    have c' : isI i1 (mx_i h 382 3) := by rw [C_np C]; exact c
    obtain ⟨x, hx, rfl⟩ := isI_nI (by omega) c
    have hxm : ¬ nI x = (-1 : Int32) := fun e => absurd (e ▸ nI0 (n := x) (by omega)) (by decide)
    obtain ⟨m, hm1, e⟩ := worn_bd C (nI x)
    refine ⟨C_cs C, vp_in_nI (by omega) (by decide), ⟨m, by omega, by rw [cm_worn C hxm, e]⟩, fun hm hmd => ?_⟩
    have em : mx_i hm 382 = mx_i h 382 := md_382 hmd 382
    have G := agr_G (P := fun _ => False) (agr_mdl hmd) I.1
    refine tr_266_0 G ⟨v01, fun v2 e2 h3 e3 => ?_⟩
    unfold V_200 at e2
    rw [em, v191_y n0 c'] at e2
    have e2 : v2 = 0 := by simpa using e2
    subst e2
    have em3 : mx_i h3 382 = mx_i h 382 := by rw [e3, thr382, em]
    have t3 : mx_i h3 381 0 = 0 := by rw [e3, thr0]
    have cs : cB (mx_i h3 382 4) 10 := by rw [em3]; exact C_rs C
    rw [t3]
    refine ⟨fun q => absurd q (by decide), fun _ => ⟨cs, vpU (by omega), ?_⟩⟩
    refine lp_266_32 (d := 498) (n := 2 ^ ns) 0 (e3 ▸ mxG_wi G) (by rw [em3, C_ns C, one_shl h10]) (by omega) (Nat.zero_le _) (fun z _ hz => ⟨⟨fun _ => ⟨cs, trivial⟩, fun _ => trivial⟩, trivial⟩) ?_
    rw [fz_fo, em3, ← cm_shed C hx]
    subst e3
    exact op_fin ok I (smr_mdl hmd) (bud_mdl hmd) ⟨rfl, rfl⟩
  · rw [C_p C, ← C_np C] at c
    have em : mx_i hm 382 = mx_i h 382 := md_382 hmd 382
    refine tr_266_0 (agr_G (P := fun _ => False) (agr_mdl hmd) (mxG_ex I.1)) ⟨v01, fun v2 e2 h3 e3 => ?_⟩
    unfold V_200 at e2
    rw [em, v191_n n0 c] at e2
    have e2 : v2 = 1 := by simpa using e2
    subst e2
    subst e3
    rw [thr0]
    exact ⟨fun _ => op_fin ok I (smr_tr smr_ex (smr_mdl hmd)) (bud_ex hmd) ⟨rfl, by decide⟩, fun q => absurd (by decide) q⟩
