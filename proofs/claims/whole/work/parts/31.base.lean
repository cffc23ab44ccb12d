/-! BASE of the tree lemmas: shapes, conditions, what a write leaves; printed by wip/whole/gen_base.py -/
theorem sT_100 : mxT 100 = (10, 0) := by decide +kernel
theorem sT_101 : mxT 101 = (8, 0) := by decide +kernel
theorem sT_102 : mxT 102 = (51, 400) := by decide +kernel
theorem sT_103 : mxT 103 = (50, 401) := by decide +kernel
theorem sT_104 : mxT 104 = (50, 401) := by decide +kernel
theorem sT_105 : mxT 105 = (50, 401) := by decide +kernel
theorem sT_106 : mxT 106 = (53, 401) := by decide +kernel
theorem sT_107 : mxT 107 = (4, 0) := by decide +kernel
theorem sT_108 : mxT 108 = (50, 64) := by decide +kernel
theorem sT_109 : mxT 109 = (2, 0) := by decide +kernel
theorem sT_110 : mxT 110 = (50, 6) := by decide +kernel
theorem sT_111 : mxT 111 = (50, 6) := by decide +kernel
theorem sT_112 : mxT 112 = (50, 10) := by decide +kernel
theorem sT_113 : mxT 113 = (50, 10) := by decide +kernel
theorem sT_114 : mxT 114 = (50, 10) := by decide +kernel
theorem sT_115 : mxT 115 = (50, 64) := by decide +kernel
theorem sT_116 : mxT 116 = (50, 64) := by decide +kernel
theorem sT_117 : mxT 117 = (6, 0) := by decide +kernel
theorem sT_118 : mxT 118 = (50, 36) := by decide +kernel
theorem sT_188 : mxT 188 = (54, 12) := by decide +kernel
theorem sT_381 : mxT 381 = (11, 0) := by decide +kernel
theorem sT_382 : mxT 382 = (50, 769) := by decide +kernel
theorem sT_383 : mxT 383 = (50, 769) := by decide +kernel
theorem sT_384 : mxT 384 = (50, 369) := by decide +kernel
theorem sT_385 : mxT 385 = (50, 4428) := by decide +kernel
theorem sT_386 : mxT 386 = (50, 400) := by decide +kernel
theorem sT_387 : mxT 387 = (50, 7) := by decide +kernel
theorem sT_388 : mxT 388 = (50, 1024) := by decide +kernel
theorem sT_389 : mxT 389 = (50, 1024) := by decide +kernel
theorem sT_390 : mxT 390 = (50, 6) := by decide +kernel
theorem sT_391 : mxT 391 = (52, 1) := by decide +kernel
theorem sV_all : ∀ a : Fin 392, (mxT a.val).1 = 9 → mxT (a.val + 0) = (9, 0) ∧ mxT (a.val + 1) = (5, 0) ∧ mxT (a.val + 2) = (50, 6) ∧ mxT (a.val + 3) = (50, 6) ∧ mxT (a.val + 4) = (50, 6) ∧ mxT (a.val + 5) = (50, 6) ∧ mxT (a.val + 6) = (50, 6) ∧ mxT (a.val + 7) = (7, 0) ∧ mxT (a.val + 8) = (50, 10) ∧ mxT (a.val + 9) = (50, 10) ∧ mxT (a.val + 10) = (50, 10) ∧ mxT (a.val + 11) = (50, 10) ∧ mxT (a.val + 12) = (50, 10) ∧ mxT (a.val + 13) = (1, 0) ∧ mxT (a.val + 14) = (50, 240) ∧ mxT (a.val + 15) = (50, 12) := by decide +kernel
theorem sL_all : ∀ a : Fin 392, (mxT a.val).1 = 3 → mxT (a.val + 0) = (3, 0) ∧ mxT (a.val + 1) = (50, 12) ∧ mxT (a.val + 2) = (50, 12) ∧ mxT (a.val + 3) = (50, 12) ∧ mxT (a.val + 4) = (50, 400) ∧ mxT (a.val + 5) = (50, 9) ∧ mxT (a.val + 6) = (50, 64) := by decide +kernel
theorem mxT_big {a : Nat} (h : 392 ≤ a) : mxT a = (0, 0) := by
  unfold mxT
  rw [if_neg (by omega)]
  have : mxTL.length = 292 := by decide +kernel
  rw [List.getD_eq_getElem?_getD, List.getElem?_eq_none (by omega)]
  rfl
theorem mxT_lt {a c : Nat} (h : (mxT a).1 = c + 1) : a < 392 := by
  apply Decidable.byContradiction
  intro hn
  rw [mxT_big (by omega)] at h
  exact absurd h (Nat.succ_ne_zero c).symm
theorem sV_0 {a : Nat} (h : (mxT a).1 = 9) : mxT a = (9, 0) := (sV_all ⟨a, mxT_lt h⟩ h).1
theorem sV_1 {a : Nat} (h : (mxT a).1 = 9) : mxT (a + 1) = (5, 0) := (sV_all ⟨a, mxT_lt h⟩ h).2.1
theorem sV_2 {a : Nat} (h : (mxT a).1 = 9) : mxT (a + 2) = (50, 6) := (sV_all ⟨a, mxT_lt h⟩ h).2.2.1
theorem sV_3 {a : Nat} (h : (mxT a).1 = 9) : mxT (a + 3) = (50, 6) := (sV_all ⟨a, mxT_lt h⟩ h).2.2.2.1
theorem sV_4 {a : Nat} (h : (mxT a).1 = 9) : mxT (a + 4) = (50, 6) := (sV_all ⟨a, mxT_lt h⟩ h).2.2.2.2.1
theorem sV_5 {a : Nat} (h : (mxT a).1 = 9) : mxT (a + 5) = (50, 6) := (sV_all ⟨a, mxT_lt h⟩ h).2.2.2.2.2.1
theorem sV_6 {a : Nat} (h : (mxT a).1 = 9) : mxT (a + 6) = (50, 6) := (sV_all ⟨a, mxT_lt h⟩ h).2.2.2.2.2.2.1
theorem sV_7 {a : Nat} (h : (mxT a).1 = 9) : mxT (a + 7) = (7, 0) := (sV_all ⟨a, mxT_lt h⟩ h).2.2.2.2.2.2.2.1
theorem sV_8 {a : Nat} (h : (mxT a).1 = 9) : mxT (a + 8) = (50, 10) := (sV_all ⟨a, mxT_lt h⟩ h).2.2.2.2.2.2.2.2.1
theorem sV_9 {a : Nat} (h : (mxT a).1 = 9) : mxT (a + 9) = (50, 10) := (sV_all ⟨a, mxT_lt h⟩ h).2.2.2.2.2.2.2.2.2.1
theorem sV_10 {a : Nat} (h : (mxT a).1 = 9) : mxT (a + 10) = (50, 10) := (sV_all ⟨a, mxT_lt h⟩ h).2.2.2.2.2.2.2.2.2.2.1
theorem sV_11 {a : Nat} (h : (mxT a).1 = 9) : mxT (a + 11) = (50, 10) := (sV_all ⟨a, mxT_lt h⟩ h).2.2.2.2.2.2.2.2.2.2.2.1
theorem sV_12 {a : Nat} (h : (mxT a).1 = 9) : mxT (a + 12) = (50, 10) := (sV_all ⟨a, mxT_lt h⟩ h).2.2.2.2.2.2.2.2.2.2.2.2.1
theorem sV_13 {a : Nat} (h : (mxT a).1 = 9) : mxT (a + 13) = (1, 0) := (sV_all ⟨a, mxT_lt h⟩ h).2.2.2.2.2.2.2.2.2.2.2.2.2.1
theorem sV_14 {a : Nat} (h : (mxT a).1 = 9) : mxT (a + 14) = (50, 240) := (sV_all ⟨a, mxT_lt h⟩ h).2.2.2.2.2.2.2.2.2.2.2.2.2.2.1
theorem sV_15 {a : Nat} (h : (mxT a).1 = 9) : mxT (a + 15) = (50, 12) := (sV_all ⟨a, mxT_lt h⟩ h).2.2.2.2.2.2.2.2.2.2.2.2.2.2.2
theorem sL_0 {a : Nat} (h : (mxT a).1 = 3) : mxT a = (3, 0) := (sL_all ⟨a, mxT_lt h⟩ h).1
theorem sL_1 {a : Nat} (h : (mxT a).1 = 3) : mxT (a + 1) = (50, 12) := (sL_all ⟨a, mxT_lt h⟩ h).2.1
theorem sL_2 {a : Nat} (h : (mxT a).1 = 3) : mxT (a + 2) = (50, 12) := (sL_all ⟨a, mxT_lt h⟩ h).2.2.1
theorem sL_3 {a : Nat} (h : (mxT a).1 = 3) : mxT (a + 3) = (50, 12) := (sL_all ⟨a, mxT_lt h⟩ h).2.2.2.1
theorem sL_4 {a : Nat} (h : (mxT a).1 = 3) : mxT (a + 4) = (50, 400) := (sL_all ⟨a, mxT_lt h⟩ h).2.2.2.2.1
theorem sL_5 {a : Nat} (h : (mxT a).1 = 3) : mxT (a + 5) = (50, 9) := (sL_all ⟨a, mxT_lt h⟩ h).2.2.2.2.2.1
theorem sL_6 {a : Nat} (h : (mxT a).1 = 3) : mxT (a + 6) = (50, 64) := (sL_all ⟨a, mxT_lt h⟩ h).2.2.2.2.2.2
section
variable {h : mxH} {a b k n : Nat} {i : Int32}
theorem cA {c : Nat} (e : mxT a = (c, n)) (G : mxG h) (hi : vp_in i n) : (((mxT a).1 = c ∧ mxG h) ∧ vp_in i (mxT a).2) := by rw [e]; exact ⟨⟨rfl, G⟩, hi⟩
theorem cW {c : Nat} (e : mxT a = (c, n)) (hc : c = 53 ∨ c = 54) (G : mxG h) (hi : vp_in i n) : ((((mxT a).1 = 53 ∨ (mxT a).1 = 54) ∧ mxG h) ∧ vp_in i (mxT a).2) := by rw [e]; exact ⟨⟨hc, G⟩, hi⟩
theorem cS {q : Nat} (e : mxT a = (53, n)) (G : mxG h) (hi : (q = 0 ∨ (3 ≤ q ∧ q < 29)) ∧ vp_in i n) : ((((mxT a).1 = 53 ∧ mxG h) ∧ (q = 0 ∨ (3 ≤ q ∧ q < 29))) ∧ vp_in i (mxT a).2) := by rw [e]; exact ⟨⟨⟨rfl, G⟩, hi.1⟩, hi.2⟩
theorem cL {c : Nat} (e : mxT a = (c, n)) (hc : 50 ≤ c) (G : mxG h) : (50 ≤ (mxT a).1 ∧ mxG h) := by rw [e]; exact ⟨hc, G⟩
theorem cC {sp dp m : Int32} {na nb : Nat} {st : List Value} (ea : mxT a = (50, na)) (eb : mxT b = (50, nb)) (G : mxG h) (hd : (decide (¬ sp < 0 ∧ ¬ dp < 0 ∧ ¬ m < 0 ∧ sp.toNatClampNeg + m.toNatClampNeg ≤ na ∧ dp.toNatClampNeg + m.toNatClampNeg ≤ nb) && decide ((st.map mx_cat).sum ≤ 8)) = true) : ((((mxT a).1 = 50 ∧ (mxT b).1 = 50) ∧ mxG h) ∧ ¬ sp < 0 ∧ ¬ dp < 0 ∧ ¬ m < 0 ∧ sp.toNatClampNeg + m.toNatClampNeg ≤ (mxT a).2 ∧ dp.toNatClampNeg + m.toNatClampNeg ≤ (mxT b).2 ∧ (st.map mx_cat).sum ≤ 8) := by
  rw [ea, eb]
  simp only [Bool.and_eq_true, decide_eq_true_eq] at hd
  exact ⟨⟨⟨rfl, rfl⟩, G⟩, hd.1.1, hd.1.2.1, hd.1.2.2.1, hd.1.2.2.2.1, hd.1.2.2.2.2, hd.2⟩
theorem cC2 {sp dp m : Int32} {na nb : Nat} {st : List Value} (ea : mxT a = (50, na)) (eb : mxT b = (50, nb)) (G : mxG h) (hd : ¬ sp < 0 ∧ ¬ dp < 0 ∧ ¬ m < 0 ∧ sp.toNatClampNeg + m.toNatClampNeg ≤ na ∧ dp.toNatClampNeg + m.toNatClampNeg ≤ nb) (h8 : Nat.ble ((st.map mx_cat).sum) 8 = true := by rfl) : ((((mxT a).1 = 50 ∧ (mxT b).1 = 50) ∧ mxG h) ∧ ¬ sp < 0 ∧ ¬ dp < 0 ∧ ¬ m < 0 ∧ sp.toNatClampNeg + m.toNatClampNeg ≤ (mxT a).2 ∧ dp.toNatClampNeg + m.toNatClampNeg ≤ (mxT b).2 ∧ (st.map mx_cat).sum ≤ 8) := by
  rw [ea, eb]
  exact ⟨⟨⟨rfl, rfl⟩, G⟩, hd.1, hd.2.1, hd.2.2.1, hd.2.2.2.1, hd.2.2.2.2, Nat.le_of_ble_eq_true h8⟩
theorem vpl {i : Int32} {n : Nat} (h : decide (¬ (i < 0 ∨ n ≤ i.toNatClampNeg)) = true) : vp_in i n := of_decide_eq_true (p := ¬ (i < 0 ∨ n ≤ i.toNatClampNeg)) h
theorem b01 {v e : Int32} (h : v = e) (k : e = 0 ∨ e = 1) : v = 0 ∨ v = 1 := h ▸ k
theorem mxG_wi {v : Int32} (G : mxG h) : mxG (mx_wi h a k v) := G
theorem mxG_wl {v : Int64} (G : mxG h) : mxG (mx_wl h a k v) := G
theorem mxG_wrow {f : Nat → Int32} (G : mxG h) : mxG (mx_wrow h a f) := G
theorem mxG_ex (G : mxG h) : mxG (mx_ex h) := G
theorem mxG_wr {q : Nat} (hn : ∀ z ∈ mxFin, (mxT a).1 = z.1 + 1 → z.2.1 ≠ k) (G : mxG h) : mxG (mx_wr h a k q) := by
  refine ⟨G.1, fun z hz c hc => ?_⟩
  show mx_up (mx_r h) a k q c z.2.1 = _
  unfold mx_up
  by_cases e : c = a ∧ z.2.1 = k
  · exact absurd e.2 (hn z hz (e.1 ▸ hc))
  · rw [if_neg e]; exact G.2 z hz c hc
theorem mxG_wr_52_0 {q : Nat} (G : mxG h) : mxG (mx_wr h 106 k q) := mxG_wr (fun z hz e => by rw [sT_106] at e; exact absurd e (by revert z; decide +kernel)) G
theorem mxG_wr_9_4 {q : Nat} (G : mxG h) : mxG (mx_wr h 100 4 q) := mxG_wr (by decide +kernel) G
theorem mxG_wr_9_5 {q : Nat} (G : mxG h) : mxG (mx_wr h 100 5 q) := mxG_wr (by decide +kernel) G
theorem mxG_wr_9_6 {q : Nat} (G : mxG h) : mxG (mx_wr h 100 6 q) := mxG_wr (by decide +kernel) G
theorem mxG_wr_9_7 {q : Nat} (G : mxG h) : mxG (mx_wr h 100 7 q) := mxG_wr (by decide +kernel) G
end
/-- where the class's own references lie: now, draft, rule, draftRule; the remembered ones -/
def mxS (h : mxH) (vn vd vr vq : Nat) : Prop := mx_r h 100 4 = vn ∧ mx_r h 100 5 = vd ∧ mx_r h 100 6 = vr ∧ mx_r h 100 7 = vq ∧ ((vn = 119 ∧ vd = 135) ∨ (vn = 135 ∧ vd = 119)) ∧ ((vr = 151 ∧ vq = 158) ∨ (vr = 158 ∧ vq = 151)) ∧ ∀ k, k < 12 → mx_r h 188 k = 189 + 16 * k
section
variable {h h1 : mxH} {vn vd vr vq : Nat}
theorem mxS_4 (S : mxS h vn vd vr vq) : mx_r h 100 4 = vn := S.1
theorem mxS_5 (S : mxS h vn vd vr vq) : mx_r h 100 5 = vd := S.2.1
theorem mxS_6 (S : mxS h vn vd vr vq) : mx_r h 100 6 = vr := S.2.2.1
theorem mxS_7 (S : mxS h vn vd vr vq) : mx_r h 100 7 = vq := S.2.2.2.1
theorem mxS_k (S : mxS h vn vd vr vq) {k : Nat} (hk : k < 12) : mx_r h 188 k = 189 + 16 * k := S.2.2.2.2.2.2 k hk
theorem mxS_vn (S : mxS h vn vd vr vq) : (mxT vn).1 = 9 := by rcases S.2.2.2.2.1 with ⟨e, -⟩ | ⟨e, -⟩ <;> rw [e] <;> decide +kernel
theorem mxS_vd (S : mxS h vn vd vr vq) : (mxT vd).1 = 9 := by rcases S.2.2.2.2.1 with ⟨-, e⟩ | ⟨-, e⟩ <;> rw [e] <;> decide +kernel
theorem mxS_vr (S : mxS h vn vd vr vq) : (mxT vr).1 = 3 := by rcases S.2.2.2.2.2.1 with ⟨e, -⟩ | ⟨e, -⟩ <;> rw [e] <;> decide +kernel
theorem mxS_vq (S : mxS h vn vd vr vq) : (mxT vq).1 = 3 := by rcases S.2.2.2.2.2.1 with ⟨-, e⟩ | ⟨-, e⟩ <;> rw [e] <;> decide +kernel
theorem mxS_of (e : mx_r h1 = mx_r h) (S : mxS h vn vd vr vq) : mxS h1 vn vd vr vq := by unfold mxS; rw [e]; exact S
theorem mxS_sw45 {h2 : mxH} (e1 : h1 = mx_wr h 100 4 vd) (e2 : h2 = mx_wr h1 100 5 vn) (S : mxS h vn vd vr vq) : mxS h2 vd vn vr vq := by
  subst e1; subst e2
  obtain ⟨s1, s2, s3, s4, s5, s6, s7⟩ := S
  exact ⟨rfl, rfl, s3, s4, by omega, s6, s7⟩
theorem mxS_sw67 {h2 : mxH} (e1 : h1 = mx_wr h 100 6 vq) (e2 : h2 = mx_wr h1 100 7 vr) (S : mxS h vn vd vr vq) : mxS h2 vn vd vq vr := by
  subst e1; subst e2
  obtain ⟨s1, s2, s3, s4, s5, s6, s7⟩ := S
  exact ⟨s1, s2, rfl, rfl, s5, by omega, s7⟩
theorem vp_lt {i : Int32} {n : Nat} (o : vp_in i n) : i.toNatClampNeg < n := by
  unfold vp_in at o; omega
theorem sK {k : Nat} (hk : k < 12) : (mxT (189 + 16 * k)).1 = 9 := (by decide +kernel : ∀ k, k < 12 → (mxT (189 + 16 * k)).1 = 9) k hk
theorem mxS_wi {a k : Nat} {v : Int32} (S : mxS h vn vd vr vq) : mxS (mx_wi h a k v) vn vd vr vq := S
theorem mxS_wl {a k : Nat} {v : Int64} (S : mxS h vn vd vr vq) : mxS (mx_wl h a k v) vn vd vr vq := S
theorem mxS_wrow {a : Nat} {f : Nat → Int32} (S : mxS h vn vd vr vq) : mxS (mx_wrow h a f) vn vd vr vq := S
end
/-- nothing but the ints of some cells has changed -/
def mxU (P : Nat → Prop) (h h1 : mxH) : Prop := mx_c h1 = mx_c h ∧ mx_x h1 = mx_x h ∧ mx_n h1 = mx_n h ∧ mx_r h1 = mx_r h ∧ mx_l h1 = mx_l h ∧ ∀ b, ¬ P b → mx_i h1 b = mx_i h b
section
variable {h h1 h2 : mxH} {P P' : Nat → Prop} {a k : Nat}
theorem mxU_rfl : mxU P h h := ⟨rfl, rfl, rfl, rfl, rfl, fun _ _ => rfl⟩
theorem mxU_tr (u : mxU P h h1) (w : mxU P h1 h2) : mxU P h h2 := ⟨w.1.trans u.1, w.2.1.trans u.2.1, w.2.2.1.trans u.2.2.1, w.2.2.2.1.trans u.2.2.2.1, w.2.2.2.2.1.trans u.2.2.2.2.1, fun b hb => (w.2.2.2.2.2 b hb).trans (u.2.2.2.2.2 b hb)⟩
theorem mxU_mono (hp : ∀ b, P b → P' b) (u : mxU P h h1) : mxU P' h h1 := ⟨u.1, u.2.1, u.2.2.1, u.2.2.2.1, u.2.2.2.2.1, fun b hb => u.2.2.2.2.2 b (fun hq => hb (hp b hq))⟩
theorem mxU_i (u : mxU P h h1) {b : Nat} (hb : ¬ P b) : mx_i h1 b = mx_i h b := u.2.2.2.2.2 b hb
theorem mxU_r (u : mxU P h h1) : mx_r h1 = mx_r h := u.2.2.2.1
theorem mxU_G (u : mxU P h h1) (G : mxG h) : mxG h1 := by
  refine ⟨u.1.trans G.1, fun q hq c hc => ?_⟩
  rw [mxU_r u]; exact G.2 q hq c hc
theorem mxU_S {vn vd vr vq : Nat} (u : mxU P h h1) (S : mxS h vn vd vr vq) : mxS h1 vn vd vr vq := mxS_of (mxU_r u) S
theorem wi_i {v : Int32} (a k b j : Nat) : mx_i (mx_wi h a k v) b j = if b = a ∧ j = k then v else mx_i h b j := rfl
theorem wi_ne {v : Int32} {b : Nat} (hb : b ≠ a) : mx_i (mx_wi h a k v) b = mx_i h b := by
  funext j
  rw [wi_i, if_neg (fun e => hb e.1)]
theorem wi_at {v : Int32} {b j : Nat} (hb : b = a) (hj : j = k) : mx_i (mx_wi h a k v) b j = v := by rw [wi_i, if_pos ⟨hb, hj⟩]
theorem wi_nj {v : Int32} {b j : Nat} (hj : j ≠ k) : mx_i (mx_wi h a k v) b j = mx_i h b j := by rw [wi_i, if_neg (fun e => hj e.2)]
theorem mxU_wi {v : Int32} (hp : P a) : mxU P h (mx_wi h a k v) := ⟨rfl, rfl, rfl, rfl, rfl, fun b hb => wi_ne (fun e => hb (e ▸ hp))⟩
theorem mxU_wi' {v : Int32} (e : h1 = mx_wi h a k v) (hp : P a) : mxU P h h1 := e ▸ mxU_wi hp
theorem wrow_ne {f : Nat → Int32} {b : Nat} (hb : b ≠ a) : mx_i (mx_wrow h a f) b = mx_i h b := by
  funext j
  show mx_rw (mx_i h) a f b j = _
  unfold mx_rw
  rw [if_neg hb]
theorem wrow_at {f : Nat → Int32} : mx_i (mx_wrow h a f) a = f := by
  funext j
  show mx_rw (mx_i h) a f a j = _
  unfold mx_rw
  rw [if_pos rfl]
theorem mxU_wrow {f : Nat → Int32} (hp : P a) : mxU P h (mx_wrow h a f) := ⟨rfl, rfl, rfl, rfl, rfl, fun b hb => wrow_ne (fun e => hb (e ▸ hp))⟩
end
/-- what comes out of so many rounds -/
def fo {α : Type} (f : Nat → α → α) : Nat → α → α
  | 0, s => s
  | n + 1, s => f n (fo f n s)
def fz {α : Type} (f : Nat → α → α) (z0 z : Nat) (s : α) : α := fo (fun j s => f (z0 + j) s) (z - z0) s
theorem fz_0 {α : Type} {f : Nat → α → α} {z0 : Nat} {s : α} : fz f z0 z0 s = s := by unfold fz; rw [Nat.sub_self]; rfl
theorem fz_s {α : Type} {f : Nat → α → α} {z0 z : Nat} {s : α} (h : z0 ≤ z) : fz f z0 (z + 1) s = f z (fz f z0 z s) := by
  unfold fz
  have e : z + 1 - z0 = (z - z0) + 1 := by omega
  rw [e]
  show f (z0 + (z - z0)) _ = _
  rw [Nat.add_sub_cancel' h]
theorem fz_fo {α : Type} {f : Nat → α → α} {z : Nat} {s : α} : fz f 0 z s = fo f z s := by
  unfold fz
  simp only [Nat.zero_add, Nat.sub_zero]
/-- nothing but ints has changed -/
def mxK (h h1 : mxH) : Prop := mx_c h1 = mx_c h ∧ mx_x h1 = mx_x h ∧ mx_n h1 = mx_n h ∧ mx_r h1 = mx_r h ∧ mx_l h1 = mx_l h
theorem mxK_rfl {h : mxH} : mxK h h := ⟨rfl, rfl, rfl, rfl, rfl⟩
theorem mxK_tr {h h1 h2 : mxH} (u : mxK h h1) (w : mxK h1 h2) : mxK h h2 := ⟨w.1.trans u.1, w.2.1.trans u.2.1, w.2.2.1.trans u.2.2.1, w.2.2.2.1.trans u.2.2.2.1, w.2.2.2.2.trans u.2.2.2.2⟩
theorem mxK_wi {h : mxH} {a k : Nat} {v : Int32} : mxK h (mx_wi h a k v) := ⟨rfl, rfl, rfl, rfl, rfl⟩
theorem mxK_wrow {h : mxH} {a : Nat} {f : Nat → Int32} : mxK h (mx_wrow h a f) := ⟨rfl, rfl, rfl, rfl, rfl⟩
theorem mxK_G {h h1 : mxH} (u : mxK h h1) (G : mxG h) : mxG h1 := by
  refine ⟨u.1.trans G.1, fun q hq c hc => ?_⟩
  rw [u.2.2.2.1]; exact G.2 q hq c hc
theorem mxK_S {h h1 : mxH} {vn vd vr vq : Nat} (u : mxK h h1) (S : mxS h vn vd vr vq) : mxS h1 vn vd vr vq := mxS_of u.2.2.2.1 S
theorem mxK_ite {h h1 h2 : mxH} {c : Prop} [Decidable c] (u : mxK h h1) (w : mxK h h2) : mxK h (if c then h1 else h2) := by split <;> assumption
theorem mxU_K {P : Nat → Prop} {h h1 : mxH} (u : mxU P h h1) : mxK h h1 := ⟨u.1, u.2.1, u.2.2.1, u.2.2.2.1, u.2.2.2.2.1⟩
theorem mxK_fo {α : Type} {g : α → mxH} {f : Nat → α → α} (hf : ∀ z s, mxK (g s) (g (f z s))) (n : Nat) (s : α) : mxK (g s) (g (fo f n s)) := by
  induction n with
  | zero => exact mxK_rfl
  | succ n ih => exact mxK_tr ih (hf n _)
theorem mxK_fz {α : Type} {g : α → mxH} {f : Nat → α → α} (hf : ∀ z s, mxK (g s) (g (f z s))) (z0 n : Nat) (s : α) : mxK (g s) (g (fz f z0 n s)) := mxK_fo (fun z s => hf _ s) _ _
/-- up to a bound -/
theorem lp_up {P : Nat → Prop} (n : Nat) (base : P n) (stp : ∀ s, s < n → P (s + 1) → P s) : P 0 := by
  have : ∀ k, k ≤ n → P (n - k) := by
    intro k
    induction k with
    | zero => intro _; exact base
    | succ k ih =>
      intro hk
      have e : n - k = (n - (k + 1)) + 1 := by omega
      exact stp _ (by omega) (e ▸ ih (by omega))
  have := this n (Nat.le_refl n)
  rwa [Nat.sub_self] at this
theorem fo_congr {α : Type} {f g : Nat → α → α} {n : Nat} {s : α} (h : ∀ z, z < n → ∀ s, f z s = g z s) : fo f n s = fo g n s := by
  induction n with
  | zero => rfl
  | succ n ih =>
    show f n (fo f n s) = g n (fo g n s)
    rw [ih (fun z hz s => h z (by omega) s), h n (by omega)]
/-- a count -/
def cB (x : Int32) (m : Nat) : Prop := ∃ n : Nat, n ≤ m ∧ x = nI n
theorem ixU {x k : Nat} : (33 : Int32) + 6 * nI x + nI k = nI (33 + 6 * x + k) := by
  rw [show (33 : Int32) = nI 33 from rfl, show (6 : Int32) = nI 6 from rfl, pk_mul, nI_add, nI_add]
theorem ixS {x k : Nat} : (69 : Int32) + 6 * nI x + nI k = nI (69 + 6 * x + k) := by
  rw [show (69 : Int32) = nI 69 from rfl, show (6 : Int32) = nI 6 from rfl, pk_mul, nI_add, nI_add]
theorem vpU {x : Nat} {k : Int32} (hx : x < 6) (hk : decide (¬ k < 0 ∧ k < 6) = true := by rfl) : vp_in (33 + 6 * nI x + k) 769 := by
  simp only [decide_eq_true_eq] at hk
  obtain ⟨j, hj, rfl⟩ := nI_of hk.1
  have := (nI_ltI hj (by decide : 6 < 2 ^ 31)).mp hk.2
  rw [ixU]
  exact vp_in_nI (by omega) (by decide)
theorem vpS {x : Nat} {k : Int32} (hx : x < 10) (hk : decide (¬ k < 0 ∧ k < 6) = true := by rfl) : vp_in (69 + 6 * nI x + k) 769 := by
  simp only [decide_eq_true_eq] at hk
  obtain ⟨j, hj, rfl⟩ := nI_of hk.1
  have := (nI_ltI hj (by decide : 6 < 2 ^ 31)).mp hk.2
  rw [ixS]
  exact vp_in_nI (by omega) (by decide)
def isI (x c : Int32) : Prop := ¬ x < 0 ∧ x < c
theorem isI_nI {x : Int32} {n : Nat} (hn : n < 2 ^ 31) (h : isI x (nI n)) : ∃ j : Nat, j < n ∧ x = nI j := by
  obtain ⟨j, hj, rfl⟩ := nI_of h.1
  exact ⟨j, (nI_ltI hj hn).mp h.2, rfl⟩
theorem nI_isI {j n : Nat} (hj : j < n) (hn : n < 2 ^ 31) : isI (nI j) (nI n) := ⟨nI_pos (by omega), nI_lt hj hn⟩
theorem vpS2 {x : Nat} {k : Int32} (hx : x < 10) (hk : isI k 6) : vp_in (69 + 6 * nI x + k) 769 := by
  obtain ⟨j, hj, rfl⟩ := isI_nI (n := 6) (by decide) hk
  rw [ixS]
  exact vp_in_nI (by omega) (by decide)
theorem vpP {x : Nat} {k : Int32} (hx : x < 12) (hk : decide (¬ k < 0 ∧ k < 30) = true := by rfl) : vp_in (k + nI x) 769 := by
  simp only [decide_eq_true_eq] at hk
  obtain ⟨j, hj, rfl⟩ := nI_of hk.1
  have := (nI_ltI hj (by decide : 30 < 2 ^ 31)).mp hk.2
  rw [nI_add]
  exact vp_in_nI (by omega) (by decide)
theorem nI_lt_iff {a b : Nat} (ha : a < 2 ^ 31) (hb : b < 2 ^ 31) : (nI a < nI b) = (a < b) := propext (nI_ltI ha hb)

