/-! THE START: the state behind the constructors is coupled -/
def cTot : List (Nat × Nat × Nat × Nat × Int32) := [(0, 15, 0, 0, 0)] ++ (cop_131 ++ ([(0, 23, 0, 0, 0)] ++ (cop_189 381 282 ++ [(0, 1, 0, 0, 0)])))
def cI0 (b j : Nat) : Int32 := rdI cTot 0 0 b j
def cR0 (b j : Nat) : Nat := rdR cTot 0 0 b j
theorem rd1 : ∀ (X : List (Nat × Nat × Nat × Nat × Int32)) (c v j : Nat), (X.all (fun o => o.1 == 0 || o.2.1 != 1)) = true → rdR X c v 1 j = v := by
  intro X
  induction X with
  | nil => intro c v j _; rfl
  | cons o t ih =>
    intro c v j w
    rw [List.all_cons, Bool.and_eq_true] at w
    obtain ⟨q, o⟩ := o
    match q, w with
    | 0, w =>
      show rdR t (c + 1) (if 1 = 100 + c then 0 else v) 1 j = v
      rw [if_neg (by omega)]
      exact ih _ _ _ w.2
    | 1, w => exact ih _ _ _ w.2
    | q + 2, w =>
      show rdR t c (if 1 = o.1 ∧ j = o.2.1 then o.2.2.1 else v) 1 j = v
      have w1 : o.1 ≠ 1 := by
        have := w.1
        simp at this
        exact this
      rw [if_neg (fun z => w1 z.1.symm)]
      exact ih _ _ _ w.2
theorem cT_1 : (cTot.all (fun o => o.1 == 0 || o.2.1 != 1)) = true := by decide +kernel
theorem cT_c : rdC cTot (0, 0) = (292, (rdC cTot (0, 0)).2) ∧ (rdC cTot (0, 0)).2 ≤ 100000 := by decide +kernel
theorem cT_G : ∀ a : Fin 392, ∀ q ∈ mxFin, (mxT a).1 = q.1 + 1 → cR0 a q.2.1 = a + q.2.2 := by decide +kernel
theorem cT_S : cR0 100 4 = 119 ∧ cR0 100 5 = 135 ∧ cR0 100 6 = 151 ∧ cR0 100 7 = 158 ∧ ∀ k, k < 12 → cR0 188 k = 189 + 16 * k := by decide +kernel
theorem cT_0 : cI0 382 3 = 0 ∧ cI0 382 4 = 0 ∧ cI0 382 7 = 0 ∧ cI0 120 0 = 0 ∧ cI0 126 0 = 0 ∧ cI0 132 0 = 0 ∧ cI0 120 6 = 0 := by decide +kernel
theorem cT_v : (cI0 119 8 = cI0 382 0 ∧ cI0 119 6 = cI0 382 5 ∧ cI0 119 5 = cI0 382 6 ∧ cI0 119 7 = cI0 382 8) ∧ (0 ≤ cI0 382 0 ∧ cI0 382 0 ≤ 12) ∧ (0 ≤ cI0 382 5 ∧ cI0 382 5 ≤ 9999) ∧ (1 ≤ cI0 382 6 ∧ cI0 382 6 ≤ 99) := by decide +kernel
theorem cT_p : ∀ p, p < 12 → cI0 134 p = cI0 382 (9 + p) ∧ (0 ≤ cI0 382 (9 + p) ∧ cI0 382 (9 + p) ≤ 3) ∧ cI0 382 (21 + p) = (cI0 119 4 >>> (nI p &&& 31)) &&& 1 := by decide +kernel
theorem cT_o : cI0 151 0 = 0 ∧ cI0 382 1 = -1 ∧ cI0 101 1 = 0 ∧ cI0 381 8 = 0 ∧ cI0 100 14 = cI0 381 12 ∧ cI0 100 12 = 0 ∧ cI0 100 13 = 0 ∧ cI0 381 6 = 0 ∧ cI0 100 10 = cI0 381 3 ∧ cI0 381 3 = 0 ∧ cI0 381 15 = 0 ∧ cI0 381 16 = 0 := by decide +kernel
section
variable {L : Nat} {xs : Nat → Int32} {h : mxH}
theorem st_I (e : h = crun cTot (mx_h0 L xs)) {b : Nat} (hb : b ≠ 1) (j : Nat) : mx_i h b j = cI0 b j := by
  rw [e, crun_i]
  show rdI cTot 0 (if b = 1 then xs j else 0) b j = _
  rw [if_neg hb]; rfl
theorem st_R (e : h = crun cTot (mx_h0 L xs)) {b : Nat} (hb : b ≠ 1) (j : Nat) : mx_r h b j = cR0 b j := by
  rw [e, crun_r]
  show rdR cTot 0 (if b = 1 ∧ j = 0 then L else 0) b j = _
  rw [if_neg (fun q => hb q.1)]; rfl
theorem st_1 (e : h = crun cTot (mx_h0 L xs)) : mx_r h 1 0 = L := by
  rw [e, crun_r, rd1 _ _ _ _ cT_1]; rfl
theorem st_c (e : h = crun cTot (mx_h0 L xs)) : mx_c h = 292 ∧ mx_n h ≤ 100000 ∧ mx_x h = 0 := by
  have w := crun_c cTot (mx_h0 L xs)
  rw [← e] at w
  have w1 : (mx_c h, mx_n h) = rdC cTot (0, 0) := w.1
  have a := congrArg Prod.fst w1
  have b := congrArg Prod.snd w1
  dsimp only at a b
  rw [cT_c.1] at a
  exact ⟨a, by rw [b]; exact cT_c.2, w.2⟩
theorem st_Inv (e : h = crun cTot (mx_h0 L xs)) : Inv LWd h 119 135 151 158 0 0 0 := by
  have I : ∀ b, b ≠ 1 → ∀ j, mx_i h b j = cI0 b j := fun b hb j => st_I e hb j
  have R : ∀ b, b ≠ 1 → ∀ j, mx_r h b j = cR0 b j := fun b hb j => st_R e hb j
  refine ⟨⟨(st_c e).1, fun q hq a ha => ?_⟩, ⟨?_, ?_, ?_, ?_, .inl ⟨rfl, rfl⟩, .inl ⟨rfl, rfl⟩, fun k hk => ?_⟩, ⟨⟨by omega, by omega, by omega, ?_, ?_, ?_, ?_, ?_, ?_⟩, ⟨?_, ?_, ?_, ?_, ?_, ?_, ?_⟩, fun p hp => ?_, ⟨⟨0, by decide, ?_⟩, fun x hx => absurd hx (by omega)⟩, fun z hz => absurd hz (by omega), fun g w hg => absurd hg (by omega)⟩, ⟨none, ?_, ?_⟩, TpN_0 ?_ ?_, ?_, ⟨0, 0, by omega, by omega, ?_, ?_, ?_, fun i hi => absurd hi (by omega)⟩, ⟨?_, .inl ?_⟩⟩
  · have hl := mxT_lt ha
    have h1 : a ≠ 1 := fun z => by rw [z] at ha; exact absurd ha (by decide +kernel +revert)
    rw [R a h1]
    exact cT_G ⟨a, hl⟩ q hq ha
  · rw [R 100 (by decide)]; exact cT_S.1
  · rw [R 100 (by decide)]; exact cT_S.2.1
  · rw [R 100 (by decide)]; exact cT_S.2.2.1
  · rw [R 100 (by decide)]; exact cT_S.2.2.2.1
  · rw [R 188 (by decide)]; exact cT_S.2.2.2.2 k hk
  · exact (I 382 (by decide) 3).trans cT_0.1
  · exact (I 382 (by decide) 4).trans cT_0.2.1
  · exact (I 382 (by decide) 7).trans cT_0.2.2.1
  · exact (I 120 (by decide) 0).trans cT_0.2.2.2.1
  · exact (I 126 (by decide) 0).trans cT_0.2.2.2.2.1
  · exact (I 132 (by decide) 0).trans cT_0.2.2.2.2.2.1
  · show mx_i h 119 8 = mx_i h 382 0
    rw [I 119 (by decide), I 382 (by decide)]; exact cT_v.1.1
  · show mx_i h 119 6 = mx_i h 382 5
    rw [I 119 (by decide), I 382 (by decide)]; exact cT_v.1.2.1
  · show mx_i h 119 5 = mx_i h 382 6
    rw [I 119 (by decide), I 382 (by decide)]; exact cT_v.1.2.2.1
  · show mx_i h 119 7 = mx_i h 382 8
    rw [I 119 (by decide), I 382 (by decide)]; exact cT_v.1.2.2.2
  · rw [I 382 (by decide)]; exact cT_v.2.1
  · rw [I 382 (by decide)]; exact cT_v.2.2.1
  · rw [I 382 (by decide)]; exact cT_v.2.2.2
  · show mx_i h 134 p = mx_i h 382 (9 + p) ∧ isR (mx_i h 382 (9 + p)) 0 3 ∧ mx_i h 382 (21 + p) = (mx_i h 119 4 >>> (nI p &&& 31)) &&& 1
    rw [I 134 (by decide), I 382 (by decide), I 382 (by decide), I 119 (by decide)]
    exact cT_p p hp
  · exact (I 120 (by decide) 6).trans cT_0.2.2.2.2.2.2
  · exact (I 151 (by decide) 0).trans cT_o.1
  · exact (I 382 (by decide) 1).trans cT_o.2.1
  · exact (I 101 (by decide) 1).trans cT_o.2.2.1
  · exact (I 381 (by decide) 8).trans cT_o.2.2.2.1
  · rw [I 100 (by decide), I 381 (by decide)]; exact cT_o.2.2.2.2.1
  · exact (I 100 (by decide) 12).trans cT_o.2.2.2.2.2.1
  · exact (I 100 (by decide) 13).trans cT_o.2.2.2.2.2.2.1
  · exact (I 381 (by decide) 6).trans cT_o.2.2.2.2.2.2.2.1
  · rw [I 100 (by decide), I 381 (by decide)]; exact cT_o.2.2.2.2.2.2.2.2.1
  · exact (I 381 (by decide) 3).trans cT_o.2.2.2.2.2.2.2.2.2.1
theorem st_fc (e : h = crun cTot (mx_h0 L xs)) : fc01 h := ⟨.inl ((st_I e (by decide) 15).trans cT_o.2.2.2.2.2.2.2.2.2.2.1), .inl ((st_I e (by decide) 16).trans cT_o.2.2.2.2.2.2.2.2.2.2.2)⟩
set_option maxRecDepth 8000 in
theorem st_wp {Q : mxO → mxH → Prop} (k : ∀ h, h = crun cTot (mx_h0 L xs) → mx_wp 1000 346 13 [some (.ref 1), some (.ref 100), some (.ref 381), some (.ref 391), some (.int 0), none, none] [] h Q) : mx_wp 1000 346 0 (mx_fr 346 [.ref 1]) [] (mx_h0 L xs) Q := by
  show mx_wp 1000 346 0 [some (.ref 1), none, none, none, none, none, none] [] (mx_h0 L xs) Q
  obtain ⟨h0, e0⟩ : ∃ z, z = mx_h0 L xs := ⟨_, rfl⟩
  rw [← e0] at k ⊢
  have c0 : mx_c h0 = 0 := by rw [e0]; rfl
  refine wp_steps (i' := 2) (ls' := [some (.ref 1), none, none, none, none, none, none]) (st' := [.ref (100 + mx_c h0), .ref (100 + mx_c h0)]) (h' := mx_mk h0 15) (P := ((mxT (100 + mx_c h0)).1 = 10 ∧ mx_c h0 < 292) ∧ True) 2 rfl rfl ⟨⟨by rw [c0]; rfl, by omega⟩, trivial⟩ ?_
  obtain ⟨h1, e1⟩ : ∃ z, z = mx_mk h0 15 := ⟨_, rfl⟩
  rw [← e1, c0]
  have c1 : mx_c h1 = 1 := by rw [e1]; show mx_c h0 + 1 = _; rw [c0]
  show mx_wp 1000 346 2 [some (.ref 1), none, none, none, none, none, none] [.ref 100, .ref 100] h1 Q
  refine wp_call (d := 999) (b := true) (y' := 131) (as := [.ref 100]) (rest := [.ref 100]) (P := 100 ≤ 100) rfl (by with_unfolding_all rfl) (by decide) (Nat.le_of_ble_eq_true rfl) (ct_131 (d := 997) c1 (fun h2 e2 c2 => ?_))
  show mx_wp 1000 346 3 [some (.ref 1), none, none, none, none, none, none] [.ref 100] h2 Q
  refine wp_steps (i' := 6) (ls' := [some (.ref 1), some (.ref 100), none, none, none, none, none]) (st' := [.ref (100 + mx_c h2), .ref (100 + mx_c h2)]) (h' := mx_mk h2 23) (P := ((mxT (100 + mx_c h2)).1 = 11 ∧ mx_c h2 < 292) ∧ True) 3 rfl rfl ⟨⟨by rw [c2]; rfl, by omega⟩, trivial⟩ ?_
  obtain ⟨h3, e3⟩ : ∃ z, z = mx_mk h2 23 := ⟨_, rfl⟩
  rw [← e3, c2]
  have c3 : mx_c h3 = 282 := by rw [e3]; show mx_c h2 + 1 = _; rw [c2]
  show mx_wp 1000 346 6 [some (.ref 1), some (.ref 100), none, none, none, none, none] [.ref 381, .ref 381] h3 Q
  refine wp_call (d := 999) (b := true) (y' := 189) (as := [.ref 381]) (rest := [.ref 381]) (P := 100 ≤ 381) rfl (by with_unfolding_all rfl) (by decide) (Nat.le_of_ble_eq_true rfl) (ct_189 (by decide +kernel) (by decide) (by omega) (by rw [c3]; unfold shp; decide +kernel) (by omega) c3 rfl (fun h4 e4 c4 => ?_))
  rw [c3] at e4 c4
  show mx_wp 1000 346 7 [some (.ref 1), some (.ref 100), none, none, none, none, none] [.ref 381] h4 Q
  refine wp_steps (i' := 10) (ls' := [some (.ref 1), some (.ref 100), some (.ref 381), none, none, none, none]) (st' := [.ref (100 + mx_c h4)]) (h' := mx_mk h4 1) (P := (mxT (100 + mx_c h4) = (52, 1) ∧ ¬ (1 : Int32) < 0 ∧ mx_c h4 < 292) ∧ True) 3 rfl rfl ⟨⟨by rw [c4]; rfl, by decide, by omega⟩, trivial⟩ ?_
  rw [c4]
  refine wp_steps (i' := 13) (ls' := [some (.ref 1), some (.ref 100), some (.ref 381), some (.ref 391), some (.int 0), none, none]) (st' := []) (h' := mx_mk h4 1) (P := True) 3 rfl rfl trivial ?_
  refine k _ ?_
  unfold cTot
  rw [crun_app, crun_app, crun_app, crun_app, show crun [(0, 15, 0, 0, 0)] h0 = h1 from e1.symm, ← e2, show crun [(0, 23, 0, 0, 0)] h2 = h3 from e3.symm, ← e4]
  rfl
theorem goal_of (A : Ops LWd) : mx_goal := by
  intro L xs hL
  refine st_wp (fun h e => ?_)
  have c := st_c e
  exact law_loop A hL (L + 1) 0 h none none (by omega) (by omega) ⟨_, _, _, _, _, _, _, st_Inv e⟩ (st_fc e) (st_1 e) (by rw [c.2.2]; omega) (by have := c.2.1; omega)
end
