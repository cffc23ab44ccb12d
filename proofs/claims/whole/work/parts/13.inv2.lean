/-! what the heap instructions of the small machine did -/
theorem mx_gf_inv {r : List Nat} {st st' : List Value} {h h' : mxH} {P : Prop} (hq : mx_gf r st h = some (st', h', P)) : (∃ a s ci k, st = .ref a :: s ∧ r = [0, ci, k] ∧ st' = .int (mx_i h a k) :: s ∧ h = h' ∧ P = ((mxT a).1 = ci + 1 ∧ mxG h)) ∨ (∃ a s ci k, st = .ref a :: s ∧ r = [1, ci, k] ∧ st' = .ref (mx_r h a k) :: s ∧ h = h' ∧ P = ((mxT a).1 = ci + 1 ∧ mxG h)) ∨ (∃ a s ci k off, st = .ref a :: s ∧ r = [7, ci, k, off] ∧ st' = .ref (a + off) :: s ∧ h = h' ∧ P = ((mxT a).1 = ci + 1 ∧ mxG h)) ∨ (∃ a s ci k, st = .ref a :: s ∧ r = [21, ci, k] ∧ st' = .ref (mx_r h a k) :: s ∧ h = h' ∧ P = ((mxT a).1 = ci + 1 ∧ a < 100 + mx_c h)) ∨ (∃ a s, st = .ref a :: s ∧ r = [2] ∧ st' = .ref (2 * a + 24) :: s ∧ h = h' ∧ P = (3 ≤ a ∧ a < 29)) ∨ (∃ a s, st = .ref a :: s ∧ r = [3] ∧ st' = .int (mxWp a) :: s ∧ h = h' ∧ P = (3 ≤ a ∧ a < 29)) ∨ (∃ a s, st = .ref a :: s ∧ r = [4] ∧ st' = .ref (a + 1) :: s ∧ h = h' ∧ P = (30 ≤ a ∧ a < 82 ∧ a % 2 = 0)) ∨ (∃ a s, st = .ref a :: s ∧ r = [5] ∧ st' = .int 0 :: s ∧ h = h' ∧ P = (30 ≤ a ∧ a < 82 ∧ a % 2 = 0)) := by
  unfold mx_gf at hq
  split at hq
  · split at hq
    · simp only [Option.some.injEq, Prod.mk.injEq] at hq
      exact Or.inl (⟨_, _, _, _, rfl, rfl, hq.1.symm, hq.2.1, hq.2.2.symm⟩)
    · simp only [Option.some.injEq, Prod.mk.injEq] at hq
      exact Or.inr (Or.inl (⟨_, _, _, _, rfl, rfl, hq.1.symm, hq.2.1, hq.2.2.symm⟩))
    · simp only [Option.some.injEq, Prod.mk.injEq] at hq
      exact Or.inr (Or.inr (Or.inl (⟨_, _, _, _, _, rfl, rfl, hq.1.symm, hq.2.1, hq.2.2.symm⟩)))
    · simp only [Option.some.injEq, Prod.mk.injEq] at hq
      exact Or.inr (Or.inr (Or.inr (Or.inl (⟨_, _, _, _, rfl, rfl, hq.1.symm, hq.2.1, hq.2.2.symm⟩))))
    · simp only [Option.some.injEq, Prod.mk.injEq] at hq
      exact Or.inr (Or.inr (Or.inr (Or.inr (Or.inl (⟨_, _, rfl, rfl, hq.1.symm, hq.2.1, hq.2.2.symm⟩)))))
    · simp only [Option.some.injEq, Prod.mk.injEq] at hq
      exact Or.inr (Or.inr (Or.inr (Or.inr (Or.inr (Or.inl (⟨_, _, rfl, rfl, hq.1.symm, hq.2.1, hq.2.2.symm⟩))))))
    · simp only [Option.some.injEq, Prod.mk.injEq] at hq
      exact Or.inr (Or.inr (Or.inr (Or.inr (Or.inr (Or.inr (Or.inl (⟨_, _, rfl, rfl, hq.1.symm, hq.2.1, hq.2.2.symm⟩)))))))
    · simp only [Option.some.injEq, Prod.mk.injEq] at hq
      exact Or.inr (Or.inr (Or.inr (Or.inr (Or.inr (Or.inr (Or.inr (⟨_, _, rfl, rfl, hq.1.symm, hq.2.1, hq.2.2.symm⟩)))))))
    · cases hq
  · cases hq
theorem mx_pf_inv {r : List Nat} {st st' : List Value} {h h' : mxH} {P : Prop} (hq : mx_pf r st h = some (st', h', P)) : (∃ x a s ci k, st = .int x :: .ref a :: s ∧ r = [0, ci, k] ∧ st' = s ∧ h' = mx_wi h a k x ∧ P = ((mxT a).1 = ci + 1 ∧ mxG h)) ∨ (∃ x a s ci k, st = .int x :: .ref a :: s ∧ r = [6, ci, k] ∧ st' = s ∧ h' = mx_wi h a k x ∧ P = (((mxT a).1 = ci + 1 ∧ mxG h) ∧ (x = 0 ∨ x = 1))) ∨ (∃ x a s ci k, st = .int x :: .ref a :: s ∧ r = [20, ci, k] ∧ st' = s ∧ h' = mx_wi h a k x ∧ P = ((mxT a).1 = ci + 1 ∧ a < 100 + mx_c h)) ∨ (∃ x a s ci k, st = .int x :: .ref a :: s ∧ r = [26, ci, k] ∧ st' = s ∧ h' = mx_wi h a k x ∧ P = (((mxT a).1 = ci + 1 ∧ a < 100 + mx_c h) ∧ (x = 0 ∨ x = 1))) ∨ (∃ q a s ci k, st = .ref q :: .ref a :: s ∧ r = [1, ci, k] ∧ st' = s ∧ h' = mx_wr h a k q ∧ P = ((mxT a).1 = ci + 1 ∧ mxG h)) ∨ (∃ q a s ci k, st = .ref q :: .ref a :: s ∧ r = [21, ci, k] ∧ st' = s ∧ h' = mx_wr h a k q ∧ P = ((mxT a).1 = ci + 1 ∧ a < 100 + mx_c h)) := by
  unfold mx_pf at hq
  split at hq
  · split at hq
    · simp only [Option.some.injEq, Prod.mk.injEq] at hq
      exact Or.inl (⟨_, _, _, _, _, rfl, rfl, hq.1.symm, hq.2.1.symm, hq.2.2.symm⟩)
    · simp only [Option.some.injEq, Prod.mk.injEq] at hq
      exact Or.inr (Or.inl (⟨_, _, _, _, _, rfl, rfl, hq.1.symm, hq.2.1.symm, hq.2.2.symm⟩))
    · simp only [Option.some.injEq, Prod.mk.injEq] at hq
      exact Or.inr (Or.inr (Or.inl (⟨_, _, _, _, _, rfl, rfl, hq.1.symm, hq.2.1.symm, hq.2.2.symm⟩)))
    · simp only [Option.some.injEq, Prod.mk.injEq] at hq
      exact Or.inr (Or.inr (Or.inr (Or.inl (⟨_, _, _, _, _, rfl, rfl, hq.1.symm, hq.2.1.symm, hq.2.2.symm⟩))))
    · cases hq
  · split at hq
    · simp only [Option.some.injEq, Prod.mk.injEq] at hq
      exact Or.inr (Or.inr (Or.inr (Or.inr (Or.inl (⟨_, _, _, _, _, rfl, rfl, hq.1.symm, hq.2.1.symm, hq.2.2.symm⟩)))))
    · simp only [Option.some.injEq, Prod.mk.injEq] at hq
      exact Or.inr (Or.inr (Or.inr (Or.inr (Or.inr (⟨_, _, _, _, _, rfl, rfl, hq.1.symm, hq.2.1.symm, hq.2.2.symm⟩)))))
    · cases hq
  · cases hq
theorem mx_ia_inv {r : List Nat} {st st' : List Value} {h h' : mxH} {P : Prop} (hq : mx_ia r st h = some (st', h', P)) : (∃ i a s, st = .int i :: .ref a :: s ∧ r = [0] ∧ st' = .int (mx_i h a i.toNatClampNeg) :: s ∧ h = h' ∧ P = (((mxT a).1 = 50 ∧ mxG h) ∧ vp_in i (mxT a).2)) ∨ (∃ i a s, st = .int i :: .ref a :: s ∧ r = [1] ∧ st' = .int (mx_i h 1 i.toNatClampNeg) :: s ∧ h = h' ∧ P = (a = 1 ∧ vp_in i (mx_r h 1 0))) := by
  unfold mx_ia at hq
  split at hq
  · split at hq
    · simp only [Option.some.injEq, Prod.mk.injEq] at hq
      exact Or.inl (⟨_, _, _, rfl, rfl, hq.1.symm, hq.2.1, hq.2.2.symm⟩)
    · simp only [Option.some.injEq, Prod.mk.injEq] at hq
      exact Or.inr (⟨_, _, _, rfl, rfl, hq.1.symm, hq.2.1, hq.2.2.symm⟩)
    · cases hq
  · cases hq
theorem mx_is_inv {r : List Nat} {st st' : List Value} {h h' : mxH} {P : Prop} (hq : mx_is r st h = some (st', h', P)) : (∃ x i a s, st = .int x :: .int i :: .ref a :: s ∧ r = [0] ∧ st' = s ∧ h' = mx_wi h a i.toNatClampNeg x ∧ P = (((mxT a).1 = 50 ∧ mxG h) ∧ vp_in i (mxT a).2)) ∨ (∃ x i a s, st = .int x :: .int i :: .ref a :: s ∧ r = [20] ∧ st' = s ∧ h' = mx_wi h a i.toNatClampNeg x ∧ P = (((mxT a).1 = 50 ∧ a < 100 + mx_c h) ∧ vp_in i (mxT a).2)) := by
  unfold mx_is at hq
  split at hq
  · split at hq
    · simp only [Option.some.injEq, Prod.mk.injEq] at hq
      exact Or.inl (⟨_, _, _, _, rfl, rfl, hq.1.symm, hq.2.1.symm, hq.2.2.symm⟩)
    · simp only [Option.some.injEq, Prod.mk.injEq] at hq
      exact Or.inr (⟨_, _, _, _, rfl, rfl, hq.1.symm, hq.2.1.symm, hq.2.2.symm⟩)
    · cases hq
  · cases hq
theorem mx_ba_inv {r : List Nat} {st st' : List Value} {h h' : mxH} {P : Prop} (hq : mx_ba r st h = some (st', h', P)) : (∃ i a s, st = .int i :: .ref a :: s ∧ r = [0] ∧ st' = .int (mx_i h a i.toNatClampNeg) :: s ∧ h = h' ∧ P = (((mxT a).1 = 51 ∧ mxG h) ∧ vp_in i (mxT a).2)) ∨ (∃ i a s, st = .int i :: .ref a :: s ∧ r = [3] ∧ st' = .int (mxSb a i.toNatClampNeg) :: s ∧ h = h' ∧ P = ((31 ≤ a ∧ a < 83 ∧ a % 2 = 1) ∧ vp_in i (mxSl a))) := by
  unfold mx_ba at hq
  split at hq
  · split at hq
    · simp only [Option.some.injEq, Prod.mk.injEq] at hq
      exact Or.inl (⟨_, _, _, rfl, rfl, hq.1.symm, hq.2.1, hq.2.2.symm⟩)
    · simp only [Option.some.injEq, Prod.mk.injEq] at hq
      exact Or.inr (⟨_, _, _, rfl, rfl, hq.1.symm, hq.2.1, hq.2.2.symm⟩)
    · cases hq
  · cases hq
theorem mx_bs_inv {st st' : List Value} {h h' : mxH} {P : Prop} (hq : mx_bs st h = some (st', h', P)) : (∃ x i a s, st = .int x :: .int i :: .ref a :: s ∧ st' = s ∧ h' = mx_wi h a i.toNatClampNeg x.toInt8.toInt32 ∧ P = (((mxT a).1 = 51 ∧ mxG h) ∧ vp_in i (mxT a).2)) := by
  unfold mx_bs at hq
  split at hq
  · simp only [Option.some.injEq, Prod.mk.injEq] at hq
    exact ⟨_, _, _, _, rfl, hq.1.symm, hq.2.1.symm, hq.2.2.symm⟩
  · cases hq
theorem mx_la_inv {st st' : List Value} {h h' : mxH} {P : Prop} (hq : mx_la st h = some (st', h', P)) : (∃ i a s, st = .int i :: .ref a :: s ∧ st' = .long (mx_l h a i.toNatClampNeg) :: s ∧ h = h' ∧ P = (((mxT a).1 = 52 ∧ mxG h) ∧ vp_in i (mxT a).2)) := by
  unfold mx_la at hq
  split at hq
  · simp only [Option.some.injEq, Prod.mk.injEq] at hq
    exact ⟨_, _, _, rfl, hq.1.symm, hq.2.1, hq.2.2.symm⟩
  · cases hq
theorem mx_ls_inv {st st' : List Value} {h h' : mxH} {P : Prop} (hq : mx_ls st h = some (st', h', P)) : (∃ x i a s, st = .long x :: .int i :: .ref a :: s ∧ st' = s ∧ h' = mx_wl h a i.toNatClampNeg x ∧ P = (((mxT a).1 = 52 ∧ mxG h) ∧ vp_in i (mxT a).2)) := by
  unfold mx_ls at hq
  split at hq
  · simp only [Option.some.injEq, Prod.mk.injEq] at hq
    exact ⟨_, _, _, _, rfl, hq.1.symm, hq.2.1.symm, hq.2.2.symm⟩
  · cases hq
theorem mx_aa_inv {r : List Nat} {st st' : List Value} {h h' : mxH} {P : Prop} (hq : mx_aa r st h = some (st', h', P)) : (∃ i a s, st = .int i :: .ref a :: s ∧ r = [0] ∧ st' = .ref (mx_r h a i.toNatClampNeg) :: s ∧ h = h' ∧ P = ((((mxT a).1 = 53 ∨ (mxT a).1 = 54) ∧ mxG h) ∧ vp_in i (mxT a).2)) ∨ (∃ i a s, st = .int i :: .ref a :: s ∧ r = [2] ∧ st' = .ref (3 + i.toNatClampNeg) :: s ∧ h = h' ∧ P = (a = 2 ∧ vp_in i 26)) := by
  unfold mx_aa at hq
  split at hq
  · split at hq
    · simp only [Option.some.injEq, Prod.mk.injEq] at hq
      exact Or.inl (⟨_, _, _, rfl, rfl, hq.1.symm, hq.2.1, hq.2.2.symm⟩)
    · simp only [Option.some.injEq, Prod.mk.injEq] at hq
      exact Or.inr (⟨_, _, _, rfl, rfl, hq.1.symm, hq.2.1, hq.2.2.symm⟩)
    · cases hq
  · cases hq
theorem mx_as_inv {r : List Nat} {st st' : List Value} {h h' : mxH} {P : Prop} (hq : mx_as r st h = some (st', h', P)) : (∃ q i a s, st = .ref q :: .int i :: .ref a :: s ∧ r = [0] ∧ st' = s ∧ h' = mx_wr h a i.toNatClampNeg q ∧ P = ((((mxT a).1 = 53 ∧ mxG h) ∧ (q = 0 ∨ (3 ≤ q ∧ q < 29))) ∧ vp_in i (mxT a).2)) ∨ (∃ q i a s, st = .ref q :: .int i :: .ref a :: s ∧ r = [20] ∧ st' = s ∧ h' = mx_wr h a i.toNatClampNeg q ∧ P = (((mxT a).1 = 54 ∧ a < 100 + mx_c h) ∧ ((mxT q).1 = 9 ∧ q < 100 + mx_c h) ∧ vp_in i (mxT a).2)) := by
  unfold mx_as at hq
  split at hq
  · split at hq
    · simp only [Option.some.injEq, Prod.mk.injEq] at hq
      exact Or.inl (⟨_, _, _, _, rfl, rfl, hq.1.symm, hq.2.1.symm, hq.2.2.symm⟩)
    · simp only [Option.some.injEq, Prod.mk.injEq] at hq
      exact Or.inr (⟨_, _, _, _, rfl, rfl, hq.1.symm, hq.2.1.symm, hq.2.2.symm⟩)
    · cases hq
  · cases hq
theorem mx_al_inv {r : List Nat} {st st' : List Value} {h h' : mxH} {P : Prop} (hq : mx_al r st h = some (st', h', P)) : (∃ a s, st = .ref a :: s ∧ r = [0] ∧ st' = .int (nI (mxT a).2) :: s ∧ h = h' ∧ P = (50 ≤ (mxT a).1 ∧ mxG h)) ∨ (∃ a s, st = .ref a :: s ∧ r = [1] ∧ st' = .int (nI (mx_r h 1 0)) :: s ∧ h = h' ∧ P = (a = 1)) ∨ (∃ a s, st = .ref a :: s ∧ r = [2] ∧ st' = .int 26 :: s ∧ h = h' ∧ P = (a = 2)) ∨ (∃ a s, st = .ref a :: s ∧ r = [3] ∧ st' = .int (nI (mxSl a)) :: s ∧ h = h' ∧ P = (31 ≤ a ∧ a < 83 ∧ a % 2 = 1)) := by
  unfold mx_al at hq
  split at hq
  · split at hq
    · simp only [Option.some.injEq, Prod.mk.injEq] at hq
      exact Or.inl (⟨_, _, rfl, rfl, hq.1.symm, hq.2.1, hq.2.2.symm⟩)
    · simp only [Option.some.injEq, Prod.mk.injEq] at hq
      exact Or.inr (Or.inl (⟨_, _, rfl, rfl, hq.1.symm, hq.2.1, hq.2.2.symm⟩))
    · simp only [Option.some.injEq, Prod.mk.injEq] at hq
      exact Or.inr (Or.inr (Or.inl (⟨_, _, rfl, rfl, hq.1.symm, hq.2.1, hq.2.2.symm⟩)))
    · simp only [Option.some.injEq, Prod.mk.injEq] at hq
      exact Or.inr (Or.inr (Or.inr (⟨_, _, rfl, rfl, hq.1.symm, hq.2.1, hq.2.2.symm⟩)))
    · cases hq
  · cases hq
theorem mx_na_inv {r : List Nat} {st st' : List Value} {h h' : mxH} {P : Prop} (hq : mx_na r st h = some (st', h', P)) : (∃ n s kd, st = .int n :: s ∧ r = [kd] ∧ st' = .ref (100 + mx_c h) :: s ∧ h' = mx_mk h n.toNatClampNeg ∧ P = (mxT (100 + mx_c h) = (kd, n.toNatClampNeg) ∧ ¬ n < 0 ∧ mx_c h < 292)) := by
  unfold mx_na at hq
  split at hq
  · split at hq
    · simp only [Option.some.injEq, Prod.mk.injEq] at hq
      exact ⟨_, _, _, rfl, rfl, hq.1.symm, hq.2.1.symm, hq.2.2.symm⟩
    · cases hq
  · cases hq
theorem mx_dv_inv {st st' : List Value} {h h' : mxH} {P : Prop} (hq : mx_dv st h = some (st', h', P)) : (∃ y x s, st = .int y :: .int x :: s ∧ st' = .int (x / y) :: s ∧ h = h' ∧ P = (¬ y = 0)) := by
  unfold mx_dv at hq
  split at hq
  · simp only [Option.some.injEq, Prod.mk.injEq] at hq
    exact ⟨_, _, _, rfl, hq.1.symm, hq.2.1, hq.2.2.symm⟩
  · cases hq
theorem mx_rm_inv {st st' : List Value} {h h' : mxH} {P : Prop} (hq : mx_rm st h = some (st', h', P)) : (∃ y x s, st = .int y :: .int x :: s ∧ st' = .int (x - x / y * y) :: s ∧ h = h' ∧ P = (¬ y = 0)) := by
  unfold mx_rm at hq
  split at hq
  · simp only [Option.some.injEq, Prod.mk.injEq] at hq
    exact ⟨_, _, _, rfl, hq.1.symm, hq.2.1, hq.2.2.symm⟩
  · cases hq
theorem mx_nw_inv {r : List Nat} {st st' : List Value} {h h' : mxH} {P : Prop} (hq : mx_nw r st h = some (st', h', P)) : ∃ ci, r = [0, ci] ∧ st' = .ref (100 + mx_c h) :: st ∧ h' = mx_mk h (mxNf ci) ∧ P = ((mxT (100 + mx_c h)).1 = ci + 1 ∧ mx_c h < 292) := by
  unfold mx_nw at hq
  split at hq
  · simp only [Option.some.injEq, Prod.mk.injEq] at hq
    exact ⟨_, rfl, hq.1.symm, hq.2.1.symm, hq.2.2.symm⟩
  · cases hq
theorem mx_oin_inv {r : List Nat} {st st' : List Value} {h h' : mxH} {P : Prop} (hq : mx_oin r st h = some (st', h', P)) : ∃ a s, r = [] ∧ st = .ref a :: s ∧ st' = s ∧ h = h' ∧ P = (100 ≤ a ∧ (s.map mx_cat).sum ≤ 8) := by
  unfold mx_oin at hq
  split at hq
  · simp only [Option.some.injEq, Prod.mk.injEq] at hq
    exact ⟨_, _, rfl, rfl, hq.1.symm, hq.2.1, hq.2.2.symm⟩
  · cases hq
theorem mx_cp_inv {r : List Nat} {st st' : List Value} {h h' : mxH} {P : Prop} (hq : mx_cp r st h = some (st', h', P)) :
    (∃ n dp b sp a s, r = [11] ∧ st = .int n :: .int dp :: .ref b :: .int sp :: .ref a :: s ∧ st' = s ∧ h' = mx_wrow h b (va_cpy (mx_i h a) (mx_i h b) sp.toNatClampNeg dp.toNatClampNeg n.toNatClampNeg) ∧ P = ((((mxT a).1 = 50 ∧ (mxT b).1 = 50) ∧ mxG h) ∧ ¬ sp < 0 ∧ ¬ dp < 0 ∧ ¬ n < 0 ∧ sp.toNatClampNeg + n.toNatClampNeg ≤ (mxT a).2 ∧ dp.toNatClampNeg + n.toNatClampNeg ≤ (mxT b).2 ∧ (s.map mx_cat).sum ≤ 8)) ∨
    (∃ y x s, r = [15] ∧ st = .int y :: .int x :: s ∧ st' = .int (if y < x then y else x) :: s ∧ h = h' ∧ P = ((s.map mx_cat).sum ≤ 8)) ∨
    (∃ y x s, r = [16] ∧ st = .int y :: .int x :: s ∧ st' = .int (if x < y then y else x) :: s ∧ h = h' ∧ P = ((s.map mx_cat).sum ≤ 8)) := by
  unfold mx_cp at hq
  split at hq
  · simp only [Option.some.injEq, Prod.mk.injEq] at hq
    exact Or.inl ⟨_, _, _, _, _, _, rfl, rfl, hq.1.symm, hq.2.1.symm, hq.2.2.symm⟩
  · simp only [Option.some.injEq, Prod.mk.injEq] at hq
    exact Or.inr (Or.inl ⟨_, _, _, rfl, rfl, hq.1.symm, hq.2.1, hq.2.2.symm⟩)
  · simp only [Option.some.injEq, Prod.mk.injEq] at hq
    exact Or.inr (Or.inr ⟨_, _, _, rfl, rfl, hq.1.symm, hq.2.1, hq.2.2.symm⟩)
  · cases hq
