/-! OPS 5: soonest, meet, led, count -/
section
variable {h : mxH} {a : Nat} {r : Nat → Int32} {np ns nl : Nat}
theorem C_plOk (C : CpN (vw h a) r np ns nl) : plOk h a := by
  have h6 := C_np6 C
  intro x hx
  rw [C_p C, nI_clamp (by omega)] at hx
  rw [Cu4 C hx]; exact isI_of_isR (Cu_l C hx)
theorem C_plOm (C : CpN (vw h a) r np ns nl) : plOm r := by
  have h6 := C_np6 C
  intro x hx
  rw [C_np C, nI_clamp (by omega)] at hx
  rw [u2 (by omega)]; exact isI_of_isR (Cu_l C hx)
/-- hours of one, none if bowed -/
def tk (r : Nat → Int32) (t : Int32) (z : Nat) : Int32 := if V_206 r (nI z) = 0 then V_262 r (nI z) t else -1
def Fso (r : Nat → Int32) (t : Int32) (z : Nat) (s : Int32) : Int32 := if tk r t z = (-1) then s else if s = (-1) then nI z else if tk r t z < V_262 r s t then nI z else s
theorem so_rel (C : CpN (vw h a) r np ns nl) {t : Int32} (ht : isI t 12) : ∀ z, z ≤ np → (fo (F_117_6 h a t) z ((-1), 0)).1 = fo (Fso r t) z (-1) ∧ (fo (Fso r t) z (-1) = -1 ∨ ∃ j, j < z ∧ fo (Fso r t) z (-1) = nI j ∧ (fo (F_117_6 h a t) z ((-1), 0)).2 = V_262 r (nI j) t) := by
  have h6 := C_np6 C
  intro z
  induction z with
  | zero => intro _; exact ⟨rfl, .inl rfl⟩
  | succ z ih =>
    intro hz
    obtain ⟨e1, e2⟩ := ih (by omega)
    have a1 : fo (F_117_6 h a t) (z + 1) ((-1), 0) = F_117_6 h a t z (fo (F_117_6 h a t) z ((-1), 0)) := rfl
    have a2 : fo (Fso r t) (z + 1) (-1) = Fso r t z (fo (Fso r t) z (-1)) := rfl
    rw [a1, a2]
    clear a1 a2 ih
    generalize fo (F_117_6 h a t) z ((-1), 0) = s at e1 e2 ⊢
    generalize fo (Fso r t) z (-1) = q at e1 e2 ⊢
    have et : (if V_106 h a (nI z) = 0 then V_116 h a (nI z) t else (-1) : Int32) = tk r t z := by
      unfold tk
      rw [cm_bowed C (by omega), cm_way C (by omega) ht]
    unfold F_117_6 Fso
    simp only [et, e1]
    by_cases c0 : tk r t z = -1
    · simp only [if_pos c0]
      refine ⟨by trivial, ?_⟩
      rcases e2 with e2 | ⟨j, hj, q1, q2⟩
      · exact .inl e2
      · exact .inr ⟨j, by omega, q1, q2⟩
    · have ez : tk r t z = V_262 r (nI z) t := by
        unfold tk at c0 ⊢
        by_cases cb : V_206 r (nI z) = 0
        · rw [if_pos cb]
        · rw [if_neg cb] at c0; exact absurd rfl c0
      simp only [if_neg c0]
      rcases e2 with e2 | ⟨j, hj, q1, q2⟩
      · simp only [if_pos e2]
        exact ⟨by trivial, .inr ⟨z, by omega, rfl, ez⟩⟩
      · have hne : ¬ q = (-1 : Int32) := fun e => absurd ((q1.symm.trans e) ▸ nI0 (n := j) (by omega)) (by decide)
        simp only [if_neg hne]
        simp only [q1, q2]
        by_cases c : tk r t z < V_262 r (nI j) t
        · simp only [if_pos c]
          exact ⟨by trivial, .inr ⟨z, by omega, rfl, ez⟩⟩
        · simp only [if_neg c]
          exact ⟨by trivial, .inr ⟨j, by omega, rfl, rfl⟩⟩
end
theorem op_soonest {LW : mxLW} (ok : LWok LW) (i1 : Int32) : Op LW 154 264 [.int i1] (fun k => if k = 2 then 1 else 0) := by
  intro h vn vd vr vq np ns nl I
  have C := I.2.2.1
  have h6 := C_np6 C
  refine tr_154_0 I.1 I.2.1 ⟨fun c => ⟨C_cp C, C_cs C, C_plOk C, c, fun hm hmd => ?_⟩, fun c hm hmd => ?_⟩
  · have em : mx_i hm 382 = mx_i h 382 := md_382 hmd 382
    have G := agr_G (P := fun _ => False) (agr_mdl hmd) I.1
    refine tr_264_0 G ⟨v01, fun v2 e2 h3 e3 => ?_⟩
    unfold V_202 at e2
    rw [v191_y' (by decide) (by decide) c] at e2
    have e2 : v2 = 0 := by simpa using e2
    subst e2
    have em3 : mx_i h3 382 = mx_i h 382 := by rw [e3, thr382, em]
    have t3 : mx_i h3 381 0 = 0 := by rw [e3, thr0]
    have G3 : mxG h3 := e3 ▸ mxG_wi G
    have hB : mx_i h3 382 3 = nI np := by rw [em3]; exact C_np C
    refine lp_up (P := fun s => H_264_12 500 h3 i1 (fo (Fso (mx_i h 382) i1) s (-1)) (nI s) _) np ?_ (fun s hs ih => ?_)
    · refine tr_264_12 (d := 496) G3 ⟨fun q => absurd (hB ▸ q) Int32.lt_irrefl, fun _ v2 e2 => ?_⟩
      rw [t3, if_neg (by decide)] at e2
      subst e3
      refine op_fin ok I (smr_mdl hmd) (bud_mdl hmd) ⟨rfl, ?_⟩
      rw [e2]
      unfold V_117
      rw [C_p C, nI_clamp (by omega)]
      exact (so_rel C c np (Nat.le_refl _)).1
    · have hr := (so_rel C c s (by omega)).2
      have cs : cB (mx_i h 382 4) 10 := C_rs C
      have hpl : ∀ j, j < np → isI (V_196 (mx_i h 382) (nI j) 2) 12 := fun j hj => by rw [u2 (by omega)]; exact isI_of_isR (Cu_l C hj)
      refine tr_264_12 (d := 496) G3 ⟨fun _ => ⟨fun _ => ?_, fun q => absurd t3 q⟩, fun q => absurd (hB.symm ▸ nI_lt hs (by omega)) q⟩
      rw [em3]
      refine ⟨cs, vpU (by omega), ⟨fun _ => trivial, fun _ => ⟨vpU (by omega), fun _ => trivial, fun _ => ⟨vpU (by omega), trivial⟩⟩⟩, ⟨fun _ => ⟨vpU (by omega), hpl s hs, c, trivial⟩, fun _ => trivial⟩, fun v10 e10 => ⟨⟨fun _ => trivial, fun _ => ⟨fun _ => trivial, fun q => ?_⟩⟩, fun v11 e11 => ?_⟩⟩
      · rcases hr with hr | ⟨j, hj, q1, -⟩
        · exact absurd hr q
        · rw [q1]
          exact ⟨vpU (by omega), hpl j (by omega), c, trivial⟩
      · have : v11 = fo (Fso (mx_i h 382) i1) (s + 1) (-1) := by
          rw [e11, e10]; rfl
        rw [this, ← nI_succ]
        exact ih
  · have G := agr_G (P := fun _ => False) (agr_mdl hmd) (mxG_ex I.1)
    have em : mx_i hm 382 = mx_i h 382 := md_382 hmd 382
    refine tr_264_0 G ⟨v01, fun v2 e2 h3 e3 => ?_⟩
    unfold V_202 at e2
    rw [v191_n' (by decide) (by decide) c] at e2
    have e2 : v2 = 1 := by simpa using e2
    subst e2
    have t3 : mx_i h3 381 0 = 1 := by rw [e3, thr0]
    have G3 : mxG h3 := e3 ▸ mxG_wi G
    refine tr_264_12 (d := 496) G3 ⟨fun _ => ⟨fun q => absurd (t3 ▸ q) (by decide), fun _ v5 e5 => ?_⟩, fun _ v2 e2 => ?_⟩
    · subst e3
      exact op_fin ok I (smr_tr smr_ex (smr_mdl hmd)) (bud_ex hmd) ⟨rfl, by decide⟩
    · subst e3
      exact op_fin ok I (smr_tr smr_ex (smr_mdl hmd)) (bud_ex hmd) ⟨rfl, by decide⟩
section
variable {h : mxH} {a : Nat} {r : Nat → Int32} {np ns nl : Nat}
theorem sN_congr {f g : Nat → Int32} : ∀ (k z : Nat) (s : Int32), (∀ y, z ≤ y → y < z + k → f y = g y) → sN f k z s = sN g k z s := by
  intro k
  induction k with
  | zero => intro z s _; rfl
  | succ k ih =>
    intro z s hf
    rw [sN, sN, hf z (by omega) (by omega)]
    by_cases e : g z = -1
    · rw [if_pos e, if_pos e]
    · rw [if_neg e, if_neg e]
      exact ih _ _ (fun y h1 h2 => hf y (by omega) (by omega))
theorem cm_all (C : CpN (vw h a) r np ns nl) {t : Int32} (ht : isI t 12) : V_119 h a t = V_283 r t := by
  have h6 := C_np6 C
  unfold V_119 V_283
  rw [C_p C, C_np C, nI_clamp (by omega)]
  exact sN_congr _ _ _ (fun y _ hy => cm_way C (by omega) ht)
def Fme (r : Nat → Int32) (z : Nat) (s : Int32) : Int32 := if V_283 r (nI z) = (-1) then s else if s = (-1) then nI z else if V_283 r (nI z) < V_283 r s then nI z else s
theorem me_rel (C : CpN (vw h a) r np ns nl) : ∀ z, z ≤ 12 → (fo (F_118 h a) z ((-1), 0)).1 = fo (Fme r) z (-1) ∧ (fo (Fme r) z (-1) = -1 ∨ ∃ j, j < z ∧ fo (Fme r) z (-1) = nI j ∧ (fo (F_118 h a) z ((-1), 0)).2 = V_283 r (nI j)) := by
  intro z
  induction z with
  | zero => intro _; exact ⟨rfl, .inl rfl⟩
  | succ z ih =>
    intro hz
    obtain ⟨e1, e2⟩ := ih (by omega)
    have a1 : fo (F_118 h a) (z + 1) ((-1), 0) = F_118 h a z (fo (F_118 h a) z ((-1), 0)) := rfl
    have a2 : fo (Fme r) (z + 1) (-1) = Fme r z (fo (Fme r) z (-1)) := rfl
    rw [a1, a2]
    clear a1 a2 ih
    generalize fo (F_118 h a) z ((-1), 0) = s at e1 e2 ⊢
    generalize fo (Fme r) z (-1) = q at e1 e2 ⊢
    unfold F_118 Fme
    simp only [cm_all C (nI_isI (n := 12) (show z < 12 by omega) (by decide)), e1]
    by_cases c0 : V_283 r (nI z) = -1
    · simp only [if_pos c0]
      refine ⟨by trivial, ?_⟩
      rcases e2 with e2 | ⟨j, hj, q1, q2⟩
      · exact .inl e2
      · exact .inr ⟨j, by omega, q1, q2⟩
    · simp only [if_neg c0]
      rcases e2 with e2 | ⟨j, hj, q1, q2⟩
      · simp only [if_pos e2]
        exact ⟨by trivial, .inr ⟨z, by omega, rfl, rfl⟩⟩
      · have hne : ¬ q = (-1 : Int32) := fun e => absurd ((q1.symm.trans e) ▸ nI0 (n := j) (by omega)) (by decide)
        simp only [if_neg hne]
        simp only [q1, q2]
        by_cases c : V_283 r (nI z) < V_283 r (nI j)
        · simp only [if_pos c]
          exact ⟨by trivial, .inr ⟨z, by omega, rfl, rfl⟩⟩
        · simp only [if_neg c]
          exact ⟨by trivial, .inr ⟨j, by omega, rfl, rfl⟩⟩
end
theorem op_meet {LW : mxLW} (ok : LWok LW) : Op LW 159 284 [] (fun _ => 0) := by
  intro h vn vd vr vq np ns nl I
  have C := I.2.2.1
  have h6 := C_np6 C
  refine tr_159_0 I.1 I.2.1 ⟨C_cp C, C_cs C, C_plOk C, fun hm hmd => ?_⟩
  have G := agr_G (P := fun _ => False) (agr_mdl hmd) I.1
  refine tr_284_0 G (fun h1 e1 => ?_)
  have em : mx_i h1 382 = mx_i h 382 := by rw [e1, thr382, md_382 hmd]
  have G1 : mxG h1 := e1 ▸ mxG_wi G
  have fin : ∀ b, V_118 h vn = b → ∃ b2, (.inl (some (.int b)) : mxO) = .inl (some (.int b2)) ∧ ansOk (fun _ => 0) (.inl (some (.int (V_118 h vn)))) b2 (mx_i h1 381 0) ∧ bud h h1 ∧ ∃ vn vd vr vq np ns nl, Inv LW h1 vn vd vr vq np ns nl := fun b hb => by
    subst e1
    exact op_fin ok I (smr_mdl hmd) (bud_mdl hmd) ⟨rfl, hb⟩
  by_cases c : 0 < mx_i h (vn + 1) 0
  · have c' : 0 < mx_i h1 382 3 := by rw [em, C_np C, ← C_p C]; exact c
    refine lp_up (P := fun s => H_284_7 500 h1 (fo (Fme (mx_i h 382)) s (-1)) (nI s) _) 12 ?_ (fun s hs ih => ?_)
    · refine tr_284_7 (d := 495) G1 ⟨fun q => absurd q (by decide), fun _ => fin _ ?_⟩
      unfold V_118
      rw [if_pos c]
      exact (me_rel C 12 (Nat.le_refl _)).1
    · have hr := (me_rel C s (by omega)).2
      refine tr_284_7 (d := 495) G1 ⟨fun _ => ⟨fun _ => ?_, fun q => absurd c' q⟩, fun q => absurd (nI_lt hs (by decide)) q⟩
      rw [em]
      refine ⟨C_rp C, C_rs C, C_plOm C, nI_isI (n := 12) hs (by decide), ⟨fun _ => trivial, fun _ => ⟨fun _ => trivial, fun q => ?_⟩⟩, fun v7 e7 => ?_⟩
      · rcases hr with hr | ⟨j, hj, q1, -⟩
        · exact absurd hr q
        · rw [q1]; exact ⟨nI_isI (n := 12) (by omega) (by decide), trivial⟩
      · have : v7 = fo (Fme (mx_i h 382)) (s + 1) (-1) := by rw [e7]; rfl
        rw [this, ← nI_succ]
        exact ih
  · have c' : ¬ 0 < mx_i h1 382 3 := by rw [em, C_np C, ← C_p C]; exact c
    refine tr_284_7 (d := 495) G1 ⟨fun _ => ⟨fun q => absurd q c', fun _ => fin _ ?_⟩, fun q => absurd (by decide) q⟩
    unfold V_118
    rw [if_neg c]
